def pz_qd (W H D : Nat) (e : pz_Env) (rip : Bool) (d : Nat → Option Nat) (v c n b : Nat) : Prop := pz_nb W H D c n = some b ∧ ∃ u, d b = some u ∧ u + (2 + pz_mv (W * H) e c n + pz_tl W H D e rip c) = v
def pz_bk (W H D : Nat) (e : pz_Env) (rip : Bool) (d : Nat → Option Nat) (v c : Nat) (r : Int32) : Prop := (∃ n b, n < 6 ∧ pz_qd W H D e rip d v c n b ∧ (∀ m b', m < n → ¬ pz_qd W H D e rip d v c m b') ∧ r = nI b) ∨ (r = -1 ∧ ∀ m b', m < 6 → ¬ pz_qd W H D e rip d v c m b')
theorem pz_mv_le {W H D : Nat} {e : pz_Env} (he : pz_ev W H D e) {c n : Nat} (hc : c < W * H * D) : pz_mv (W * H) e c n ≤ 50 := by
  have h1 := pz_lay4 he.1 hc
  have h2 := he.2.1 _ h1
  have h3 := he.2.1 (c / (W * H) - 1) (by omega)
  unfold pz_mv
  repeat' split
  all_goals omega
theorem pz_c_stepBack {W H D : Nat} {e : pz_Env} (he : pz_ev W H D e) {S : zz_St} (hg : pz_cgeo W H D S) (hl : ∀ l, l < 4 → zz_ga S 13 l = nI (pe_ac e l) ∧ zz_ga S 14 l = nI (pe_via e l) ∧ zz_ga S 15 l = nI (pe_nr e l)) {N c v : Nat} (hN : 10 ≤ N) {rip : Bool} {d : Nat → Option Nat} (hc : c < (W * H * D))
    (hrow : pz_row (W * H * D) (zz_gA S 17) d) (hrb : pz_rb (W * H * D) d) (ht : pz_tolls (W * H * D) e rip (zz_gA S 18) (pz_tl W H D e rip)) (hdc : d c = some v) (hcan : pz_can e rip c = true) :
    pz_T (zf_X4_stepBack N (W * H * D) S (nI c)) (pz_bk W H D e rip d v c) := by
  have hs := he.1
  have hz := hs.2.2.2.2.1
  have hbd : ∀ j v, d j = some v → v ≤ 2048000000000 := fun j v h => pz_rb_le hz hrb h
  have htc := ht c hc
  rw [hcan] at htc
  simp only [if_true] at htc
  have htl := pz_tl_le he (rip := rip) hc
  have hvb := hbd c v hdc
  unfold zf_X4_stepBack
  rw [pz_T_b1, pz_T_eq (pz_c_layerOf hs hg (by omega)), pz_T_let, pz_T_let]
  refine pz_for1 (e := 6) (fun n => ∀ m b', m < n → ¬ pz_qd W H D e rip d v c m b') ?_ N 0 (by omega) (fun m b' h => by omega) (by omega)
  intro rc n hn hno hrc
  rw [pz_T_ite, pz_c5b (by omega)]
  refine ⟨fun h5 => ?_, fun h5 => ?_⟩
  · rw [pz_T_some]
    exact Or.inr ⟨rfl, fun m b' hm => hno m b' (by omega)⟩
  · rw [pz_T_b1, pz_T_eq (pz_c_neighbour hs hg hc (by omega))]
    have hcont : (∀ b', ¬ pz_qd W H D e rip d v c n b') → pz_T (rc (nI (n + 1))) (pz_bk W H D e rip d v c) := by
      intro hq
      refine hrc (by omega) (fun m b' hm => ?_)
      by_cases e1 : m = n
      · subst e1; exact hq b'
      · exact hno m b' (by omega)
    cases hnb : pz_nb W H D c n with
    | none =>
      simp only [pz_T_ite, pz_T_gd, pz_T_jn1, pz_T_jn2, pz_T_some, pz_T_let, pz_T_b1, pz_T_b2]
      rw [nI_1]
      exact ⟨fun _ => hcont (fun b' h => by rw [h.1] at hnb; cases hnb), fun h => absurd rfl h⟩
    | some b =>
      have hb := pz_nb_lt hs.1 hs.2.1 hc hnb
      have hmv := pz_mv_le he (n := n) hc
      simp only [pz_T_ite, pz_T_gd, pz_T_jn1, pz_T_jn2, pz_T_some, pz_T_let, pz_T_b1, pz_T_b2]
      simp (disch := omega) only [pz_o_s, pz_nm1, pz_in, nI_clampI, nI_1, pz_l_eq, hrow b hb, hrow c hc, hdc]
      refine ⟨fun h => h.elim, fun _ => ⟨hb, fun hm1 => hcont ?_, fun hm1 => ⟨hb, ?_⟩⟩⟩
      · rintro b' ⟨h1, u, h2, -⟩
        rw [hnb] at h1
        cases h1
        have := hbd b u h2
        rw [h2, pz_lo_s, pz_lN_m1 (by omega)] at hm1
        exact hm1
      · rw [pz_T_eq (pz_c_ofMove he hl hc (by omega) hnb)]
        cases hdb : d b with
        | none => rw [hdb] at hm1; exact absurd rfl hm1
        | some u =>
          have hub := hbd b u hdb
          rw [pz_lo_s, pz_lo_s, nI_l (by omega), htc, lN_add, lN_add, pz_lN_eq (by omega) (by omega)]
          refine ⟨hc, hc, fun heq => Or.inl ⟨n, b, by omega, ⟨hnb, u, hdb, by omega⟩, hno, rfl⟩, fun hne => hcont ?_⟩
          rintro b' ⟨h1, u', h2, h3⟩
          rw [hnb] at h1
          cases h1
          rw [hdb] at h2
          cases h2
          exact hne (by omega)
theorem pz_m_back {W H D : Nat} {e : pz_Env} (he : pz_ev W H D e) {k : Int32} {M : zz_St} (hm : pz_menv W H D e k M) {N c v : Nat} (hN : 10 ≤ N) {rip : Bool} {d : Nat → Option Nat} (hc : c < (W * H * D))
    (hrow : pz_row (W * H * D) (zz_gA M 16) d) (hrb : pz_rb (W * H * D) d) (hdc : d c = some v) :
    pz_T (zf_X7_back N M k (nI c) (pz_b rip)) (pz_bk W H D e rip d v c) := by
  have hs := he.1
  have hz := hs.2.2.2.2.1
  have hbd : ∀ j v, d j = some v → v ≤ 2048000000000 := fun j v h => pz_rb_le hz hrb h
  have hvb := hbd c v hdc
  unfold zf_X7_back
  rw [pz_T_let]
  refine pz_for1 (e := 6) (fun n => ∀ m b', m < n → ¬ pz_qd W H D e rip d v c m b') ?_ N 0 (by omega) (fun m b' h => by omega) (by omega)
  intro rc n hn hno hrc
  rw [pz_T_ite, pz_c6a (by omega)]
  refine ⟨fun h5 => ?_, fun h5 => ?_⟩
  · rw [pz_T_some]
    exact Or.inr ⟨rfl, fun m b' hm => hno m b' (by omega)⟩
  · rw [pz_T_b1, pz_T_eq (pz_m_neighbour hs hm.1 hc (by omega))]
    have hcont : (∀ b', ¬ pz_qd W H D e rip d v c n b') → pz_T (rc (nI (n + 1))) (pz_bk W H D e rip d v c) := by
      intro hq
      refine hrc (by omega) (fun m b' hm => ?_)
      by_cases e1 : m = n
      · subst e1; exact hq b'
      · exact hno m b' (by omega)
    cases hnb : pz_nb W H D c n with
    | none =>
      simp only [pz_T_ite, pz_T_gd, pz_T_jn1, pz_T_jn2, pz_T_some, pz_T_let, pz_T_b1, pz_T_b2]
      rw [nI_1]
      exact ⟨fun _ => hcont (fun b' h => by rw [h.1] at hnb; cases hnb), fun h => absurd rfl h⟩
    | some b =>
      have hb := pz_nb_lt hs.1 hs.2.1 hc hnb
      have hsym := pz_nb_sym hs.1 hs.2.1 hc (by omega) hnb
      have hmv := pz_mv_sym (e := e) hs hc (by omega) hnb
      unfold zf_X7_opposite
      simp only [pz_T_ite, pz_T_gd, pz_T_jn1, pz_T_jn2, pz_T_some, pz_T_let, pz_T_b1, pz_T_b2]
      simp (disch := omega) only [pz_o_s, pz_nm1, pz_in, nI_clampI, nI_1, pz_l_eq, pz_l_lt, hrow b hb, hrow c hc, hdc, pz_5s]
      refine ⟨fun h => h.elim, fun _ => ⟨by omega, fun hm1 => hcont ?_, fun hm1 => ⟨by omega, ?_⟩⟩⟩
      · rintro b' ⟨h1, u, h2, -⟩
        rw [hnb] at h1
        cases h1
        have := hbd b u h2
        rw [h2, pz_lo_s, pz_lN_n0 (by omega)] at hm1
        exact hm1
      · have hwt := pz_wt_le he (rip := rip) (n := 5 - n) hb hc
        rw [pz_T_eq (pz_m_step he hm hN hb (by omega) hsym rip)]
        cases hdb : d b with
        | none => rw [hdb] at hm1; exact absurd (by simp [pz_lo]) hm1
        | some u =>
          have hub := hbd b u hdb
          rw [pz_lo_s, pz_lo_s, lN_add, pz_lN_eq (by omega) (by omega)]
          have hw : pz_wt W H D e rip b (5 - n) c = 2 + pz_mv (W * H) e c n + pz_tl W H D e rip c := by
            unfold pz_wt
            rw [hmv]
          rw [hw]
          refine ⟨by omega, fun heq => Or.inl ⟨n, b, by omega, ⟨hnb, u, hdb, by omega⟩, hno, rfl⟩, fun hne => hcont ?_⟩
          rintro b' ⟨h1, u', h2, h3⟩
          rw [hnb] at h1
          cases h1
          rw [hdb] at h2
          cases h2
          exact hne (by omega)
/-- who stands around what was reached -/
def pz_ar (W H D : Nat) (e : pz_Env) (hol : Nat → Int32) (c n i : Nat) : Prop := ∃ y, pz_nb W H D c n = some y ∧ pe_fg e y = true ∧ hol y = nI i
theorem pz_c_around {W H D : Nat} {e : pz_Env} (hs : pz_siz W H D) {k : Int32} {S : zz_St} (hm : pz_cenv W H D e k S) {N : Nat} (hN : 2000 ≤ N) {d : Nat → Option Nat}
    (hrow : pz_row (W * H * D) (zz_gA S 17) d) (hrb : pz_rb (W * H * D) d) (hh : ∀ c, c < (W * H * D) → pe_fg e c = true → ∃ o, o < 32 ∧ zz_ga S 10 c = nI o) :
    pz_T (zf_X4_holdersAround N (W * H * D) S k) (fun x => ∀ i, i < 32 → (bt x i = true ↔ ∃ c n, c < (W * H * D) ∧ n < 6 ∧ (d c).isSome = true ∧ pz_ar W H D e (zz_ga S 10) c n i)) := by
  have hz := hs.2.2.2.2.1
  have hbd : ∀ j v, d j = some v → v ≤ 2048000000000 := fun j v h => pz_rb_le hz hrb h
  unfold zf_X4_holdersAround
  rw [pz_T_let, pz_T_let]
  refine pz_for2r (e := (W * H * D)) (fun c x => ∀ i, i < 32 → (bt x i = true ↔ ∃ c' n, c' < c ∧ n < 6 ∧ (d c').isSome = true ∧ pz_ar W H D e (zz_ga S 10) c' n i)) ?_ N 0 _ (by omega) (fun i hi => ?_) (by omega)
  · intro rc c x hcz hx hrc
    rw [pz_T_ite, hm.1.2.2.2.2, pz_leI (by omega) (by omega)]
    refine ⟨fun hge => ?_, fun hlt => ?_⟩
    · have : c = (W * H * D) := by omega
      subst this
      rw [pz_T_some]
      exact hx
    · have hc : c < (W * H * D) := by omega
      rw [pz_T_let]
      refine pz_for2r (e := 6) (fun n y => ∀ i, i < 32 → (bt y i = true ↔ (bt x i = true ∨ ∃ n', n' < n ∧ (d c).isSome = true ∧ pz_ar W H D e (zz_ga S 10) c n' i))) ?_ N 0 _ (by omega) (fun i hi => ⟨Or.inl, fun h => h.elim id (fun ⟨n', h, _⟩ => by omega)⟩) (by omega)
      intro rc2 n y hn6 hy hrc2
      have hexit : (6 ≤ n ∨ d c = none) → pz_T (rc y (nI (c + 1))) (fun x => ∀ i, i < 32 → (bt x i = true ↔ ∃ c n, c < (W * H * D) ∧ n < 6 ∧ (d c).isSome = true ∧ pz_ar W H D e (zz_ga S 10) c n i)) := by
        intro hor
        refine hrc hc y (fun i hi => ?_)
        rw [hy i hi, hx i hi]
        constructor
        · rintro (⟨c', n', h1, h2, h3, h4⟩ | ⟨n', h1, h2, h3⟩)
          · exact ⟨c', n', by omega, h2, h3, h4⟩
          · exact ⟨c, n', by omega, by omega, h2, h3⟩
        · rintro ⟨c', n', h1, h2, h3, h4⟩
          by_cases e1 : c' = c
          · subst e1
            rcases hor with hor | hor
            · exact Or.inr ⟨n', by omega, h3, h4⟩
            · rw [hor] at h3; cases h3
          · exact Or.inl ⟨c', n', by omega, h2, h3, h4⟩
      simp only [pz_T_ite, pz_T_gd, pz_T_jn1, pz_T_jn2, pz_T_some, pz_T_let, pz_T_b1, pz_T_b2]
      simp (disch := omega) only [pz_c5b, pz_in, nI_clampI, nI_1, pz_l_eq, hrow c hc]
      refine ⟨fun h5 => hexit (Or.inl (by omega)), fun h5 => ⟨hc, fun hm1 => hexit (Or.inr ?_), fun hm1 => ?_⟩⟩
      · cases hd : d c with
        | none => rfl
        | some v =>
          have := hbd c v hd
          rw [hd, pz_lo_s, pz_lN_m1 (by omega)] at hm1
          exact hm1.elim
      · have hds : (d c).isSome = true := by
          cases hd : d c with
          | none => rw [hd] at hm1; exact absurd rfl hm1
          | some v => rfl
        rw [pz_T_eq (pz_c_neighbour hs hm.1 hc (by omega))]
        have hcont : ∀ w, (∀ i, i < 32 → (bt w i = true ↔ bt y i = true ∨ pz_ar W H D e (zz_ga S 10) c n i)) → pz_T (rc2 w (nI (n + 1))) (fun x => ∀ i, i < 32 → (bt x i = true ↔ ∃ c n, c < (W * H * D) ∧ n < 6 ∧ (d c).isSome = true ∧ pz_ar W H D e (zz_ga S 10) c n i)) := by
          intro w hw
          refine hrc2 (by omega) w (fun i hi => ?_)
          rw [hw i hi, hy i hi]
          constructor
          · rintro ((h | ⟨n', h1, h2, h3⟩) | h)
            · exact Or.inl h
            · exact Or.inr ⟨n', by omega, h2, h3⟩
            · exact Or.inr ⟨n, by omega, hds, h⟩
          · rintro (h | ⟨n', h1, h2, h3⟩)
            · exact Or.inl (Or.inl h)
            · by_cases e1 : n' = n
              · subst e1; exact Or.inr h3
              · exact Or.inl (Or.inr ⟨n', by omega, h2, h3⟩)
        cases hnb : pz_nb W H D c n with
        | none => exact ⟨fun _ => hcont y (fun i hi => ⟨Or.inl, fun h => h.elim id (fun ⟨q, h, _⟩ => by rw [hnb] at h; cases h)⟩), fun h => absurd rfl h⟩
        | some q =>
          have hq := pz_nb_lt hs.1 hs.2.1 hc hnb
          rw [pz_o_s, pz_nm1 (by omega), pz_T_eq (pz_c_other hs hm hq), pz_b_0]
          refine ⟨fun h => h.elim, fun _ => ⟨fun hf => hcont y (fun i hi => ⟨Or.inl, fun h => h.elim id (fun ⟨q', h1, h2, _⟩ => ?_)⟩), fun hf => ?_⟩⟩
          · rw [hnb] at h1
            cases h1
            rw [hf] at h2
            cases h2
          · have hf' : pe_fg e q = true := by simpa using hf
            obtain ⟨o, ho, hol⟩ := hh q hq hf'
            rw [pz_in (by omega), nI_clampI (by omega), hol]
            refine ⟨hq, hcont _ (fun i hi => ?_)⟩
            rw [pz_bt_or ho hi]
            simp only [Bool.or_eq_true, decide_eq_true_eq]
            constructor
            · rintro (h | h)
              · exact Or.inl h
              · subst h; exact Or.inr ⟨q, hnb, hf', hol⟩
            · rintro (h | ⟨q', h1, h2, h3⟩)
              · exact Or.inl h
              · rw [hnb] at h1
                cases h1
                rw [hol, pz_eqI (by omega) (by omega)] at h3
                exact Or.inr h3.symm
  · rw [b_0]
    exact ⟨fun h => (by cases h), fun ⟨c, n, h, _⟩ => by omega⟩
theorem pz_menv_sa15 {W H D : Nat} {e : pz_Env} {k : Int32} {M : zz_St} (h : pz_menv W H D e k M) (r : Nat → Int32) : pz_menv W H D e k (zz_sa M 15 r) := by
  obtain ⟨h1, h2, h3⟩ := h
  refine ⟨h1, ?_, ?_⟩
  · simp (disch := omega) only [pz_ga_sa_n, pz_gA_sa]
    exact h2
  · simp (disch := omega) only [pz_ga_sa_n, pz_gA_sa]
    exact h3
theorem pz_upd2 {f : Nat → Int32} {k : Nat} {a b : Int32} : upd (upd f k a) k b = upd f k b := by
  funext j
  unfold upd
  split <;> rfl
theorem pz_m_blocks {W H D : Nat} {e : pz_Env} (hs : pz_siz W H D) {k : Nat} (hk : k < 12) {M : zz_St} (hm : pz_menv W H D e (nI k) M) {N : Nat} (hN : 2000 ≤ N) {d : Nat → Option Nat}
    (hrow : pz_row (W * H * D) (zz_gA M 16) d) (hrb : pz_rb (W * H * D) d) (hh : ∀ c, c < (W * H * D) → pe_fg e c = true → ∃ o, o < 32 ∧ zz_ga M 3 c = nI o) :
    pz_T (zf_X7_findBlocks N M (nI k)) (fun M' => ∃ x, M' = zz_sa M 15 (upd (zz_ga M 15) k x) ∧ ∀ i, i < 32 → (bt x i = true ↔ ∃ c n, c < (W * H * D) ∧ n < 6 ∧ (d c).isSome = true ∧ pz_ar W H D e (zz_ga M 3) c n i)) := by
  have hz := hs.2.2.2.2.1
  have hg := hm.1
  have hbd : ∀ j v, d j = some v → v ≤ 2048000000000 := fun j v h => pz_rb_le hz hrb h
  have hall : zz_gi M 1 * zz_gi M 2 * zz_gi M 3 = nI (W * H * D) := by rw [hg.1, hg.2.1, hg.2.2, pk_mul, pk_mul]
  unfold zf_X7_findBlocks
  rw [pz_T_let, hall, pz_T_gd, pz_T_let, pz_T_let, pz_in (by omega), nI_clampI (by omega)]
  refine ⟨hk, ?_⟩
  refine pz_for2 (e := (W * H * D)) (fun c M' => ∃ x, M' = zz_sa M 15 (upd (zz_ga M 15) k x) ∧ ∀ i, i < 32 → (bt x i = true ↔ ∃ c' n, c' < c ∧ n < 6 ∧ (d c').isSome = true ∧ pz_ar W H D e (zz_ga M 3) c' n i)) ?_ N 0 _ (by omega) ⟨0, rfl, fun i hi => ?_⟩ (by omega)
  · rintro rc c _ hcz ⟨x, rfl, hx⟩ hrc
    rw [pz_T_ite, pz_leI (by omega) (by omega)]
    refine ⟨fun hge => ?_, fun hlt => ?_⟩
    · have : c = (W * H * D) := by omega
      subst this
      rw [pz_T_some]
      exact ⟨x, rfl, hx⟩
    · have hc : c < (W * H * D) := by omega
      rw [pz_T_let]
      refine pz_for2 (e := 6) (fun n M' => ∃ y, M' = zz_sa M 15 (upd (zz_ga M 15) k y) ∧ ∀ i, i < 32 → (bt y i = true ↔ (bt x i = true ∨ ∃ n', n' < n ∧ (d c).isSome = true ∧ pz_ar W H D e (zz_ga M 3) c n' i))) ?_ N 0 _ (by omega) ⟨x, rfl, fun i hi => ⟨Or.inl, fun h => h.elim id (fun ⟨n', h, _⟩ => by omega)⟩⟩ (by omega)
      rintro rc2 n _ hn6 ⟨y, rfl, hy⟩ hrc2
      have hexit : (6 ≤ n ∨ d c = none) → pz_T (rc (nI (c + 1)) (zz_sa M 15 (upd (zz_ga M 15) k y))) (fun M' => ∃ x, M' = zz_sa M 15 (upd (zz_ga M 15) k x) ∧ ∀ i, i < 32 → (bt x i = true ↔ ∃ c n, c < (W * H * D) ∧ n < 6 ∧ (d c).isSome = true ∧ pz_ar W H D e (zz_ga M 3) c n i)) := by
        intro hor
        refine hrc hc _ ⟨y, rfl, fun i hi => ?_⟩
        rw [hy i hi, hx i hi]
        constructor
        · rintro (⟨c', n', h1, h2, h3, h4⟩ | ⟨n', h1, h2, h3⟩)
          · exact ⟨c', n', by omega, h2, h3, h4⟩
          · exact ⟨c, n', by omega, by omega, h2, h3⟩
        · rintro ⟨c', n', h1, h2, h3, h4⟩
          by_cases e1 : c' = c
          · subst e1
            rcases hor with hor | hor
            · exact Or.inr ⟨n', by omega, h3, h4⟩
            · rw [hor] at h3; cases h3
          · exact Or.inl ⟨c', n', by omega, h2, h3, h4⟩
      have hcont : ∀ w, (d c).isSome = true → (∀ i, i < 32 → (bt w i = true ↔ bt y i = true ∨ pz_ar W H D e (zz_ga M 3) c n i)) → n < 6 → pz_T (rc2 (nI (n + 1)) (zz_sa M 15 (upd (zz_ga M 15) k w))) (fun M' => ∃ x, M' = zz_sa M 15 (upd (zz_ga M 15) k x) ∧ ∀ i, i < 32 → (bt x i = true ↔ ∃ c n, c < (W * H * D) ∧ n < 6 ∧ (d c).isSome = true ∧ pz_ar W H D e (zz_ga M 3) c n i)) := by
        intro w hds hw hn
        refine hrc2 (by omega) _ ⟨w, rfl, fun i hi => ?_⟩
        rw [hw i hi, hy i hi]
        constructor
        · rintro ((h | ⟨n', h1, h2, h3⟩) | h)
          · exact Or.inl h
          · exact Or.inr ⟨n', by omega, h2, h3⟩
          · exact Or.inr ⟨n, by omega, hds, h⟩
        · rintro (h | ⟨n', h1, h2, h3⟩)
          · exact Or.inl (Or.inl h)
          · by_cases e1 : n' = n
            · subst e1; exact Or.inr h3
            · exact Or.inl (Or.inr ⟨n', by omega, h2, h3⟩)
      simp only [pz_T_ite, pz_T_gd, pz_T_jn1, pz_T_jn2, pz_T_some, pz_T_let, pz_T_b1, pz_T_b2]
      simp (disch := omega) only [pz_c6a, pz_in, nI_clampI, nI_1, pz_l_lt, pz_gA_sa, hrow c hc]
      refine ⟨fun h5 => hexit (Or.inl (by omega)), fun h5 => ⟨by omega, fun hm1 => hexit (Or.inr ?_), fun hm1 => ?_⟩⟩
      · rwa [pz_lo_lt0 (fun v hv => by have := hbd c v hv; omega)] at hm1
      · have hds : (d c).isSome = true := by
          cases hd : d c with
          | none => rw [hd] at hm1; exact absurd (by simp [pz_lo]) hm1
          | some v => rfl
        rw [pz_T_eq (pz_m_neighbour hs (pz_menv_sa15 hm _).1 hc (by omega))]
        cases hnb : pz_nb W H D c n with
        | none => exact ⟨fun _ => hcont y hds (fun i hi => ⟨Or.inl, fun h => h.elim id (fun ⟨q, h, _⟩ => by rw [hnb] at h; cases h)⟩) (by omega), fun h => absurd rfl h⟩
        | some q =>
          have hq := pz_nb_lt hs.1 hs.2.1 hc hnb
          have hfq := (hm.2.1 q hq).2.2.1
          have hnof : pe_fg e q = false → pz_T (rc2 (nI (n + 1)) (zz_sa M 15 (upd (zz_ga M 15) k y))) (fun M' => ∃ x, M' = zz_sa M 15 (upd (zz_ga M 15) k x) ∧ ∀ i, i < 32 → (bt x i = true ↔ ∃ c n, c < (W * H * D) ∧ n < 6 ∧ (d c).isSome = true ∧ pz_ar W H D e (zz_ga M 3) c n i)) := by
            intro hf
            refine hcont y hds (fun i hi => ⟨Or.inl, fun h => h.elim id (fun ⟨q', h1, h2, _⟩ => ?_)⟩) (by omega)
            rw [hnb] at h1
            cases h1
            rw [hf] at h2
            cases h2
          simp (disch := omega) only [pz_o_s, pz_nm1, pz_in, nI_clampI, pz_ga_sa_n, pz_ga_sa, pz_saa, pk_us, pz_upd2]
          refine ⟨fun h => h.elim, fun _ => ⟨by omega, fun q1 => hnof ?_, fun q1 => ⟨by omega, fun q2 => hnof ?_, fun q2 => ⟨hk, by omega, hk, ?_⟩⟩⟩⟩
          · cases hf : pe_fg e q
            · rfl
            · exact absurd q1 (hfq.mpr hf).1
          · cases hf : pe_fg e q
            · rfl
            · exact absurd q2 (hfq.mpr hf).2
          · have hf' := hfq.mp ⟨q1, q2⟩
            obtain ⟨o, ho, hol⟩ := hh q hq hf'
            rw [hol]
            refine hcont _ hds (fun i hi => ?_) (by omega)
            rw [pz_bt_or ho hi]
            simp only [Bool.or_eq_true, decide_eq_true_eq]
            constructor
            · rintro (h | h)
              · exact Or.inl h
              · subst h; exact Or.inr ⟨q, hnb, hf', hol⟩
            · rintro (h | ⟨q', h1, h2, h3⟩)
              · exact Or.inl h
              · rw [hnb] at h1
                cases h1
                rw [hol, pz_eqI (by omega) (by omega)] at h3
                exact Or.inr h3.symm
  · rw [b_0]
    exact ⟨fun h => (by cases h), fun ⟨c, n, h, _⟩ => by omega⟩

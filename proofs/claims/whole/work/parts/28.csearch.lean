def pz_Tt (ts : Nat) (tr : Nat → Nat) (c : Nat) : Prop := ∃ i, i < ts ∧ tr i = c
def pz_K (d : Nat → Option Nat) (c : Nat) : Nat := (d c).getD 0
def pz_tree (z ts : Nat) (tr : Nat → Nat) (S : zz_St) : Prop := zz_gi S 7 = nI ts ∧ ts ≤ z ∧ ∀ i, i < ts → zz_ga S 16 i = nI (tr i) ∧ tr i < z
theorem pz_c_start {S : zz_St} {N z ts : Nat} {tr : Nat → Nat} (hz : z ≤ 1024) (hN : 2000 ≤ N) (ht : pz_tree z ts tr S) {n : Int32} {d t : Nat → Int64} {h s : Nat → Int32} :
    pz_T (zf_X4_startFrom N z (pz_cs S n d t h s)) (fun S' => ∃ n' r h' s' B d', S' = pz_cs S (nI n') r t h' s' ∧ pz_row z r d' ∧ (∀ c, (d' c = some 0 ∧ pz_Tt ts tr c) ∨ (d' c = none ∧ ¬ pz_Tt ts tr c)) ∧ pz_heap z n' (pz_K d') B h' s' ∧ ∀ c, c < z → (B c).isSome = (d' c).isSome) := by
  obtain ⟨g7, htz, hmem⟩ := ht
  unfold zf_X4_startFrom zf_X0_clear
  simp only [pz_T_gd, pz_T_let, pz_T_b1, pz_T_some]
  simp (disch := omega) only [pz_cs_gi8, pz_cs_gi, pz_cs_gl, pz_cs_ga19, pz_cs_ga20, pz_cs_ga, pz_cs_gA17, pz_cs_gA18, pz_cs_gA, pz_cs_gp, pz_cs_si8, pz_cs_sa19, pz_cs_sa20, pz_cs_sA17, pz_cs_sA18]
  refine ⟨by simp; omega, by simp; omega, ?_⟩
  refine pz_for2 (e := ts) (fun i S' => ∃ n' r h' s' B d', S' = pz_cs S (nI n') r t h' s' ∧ pz_row z r d' ∧ (∀ c, (d' c = some 0 ∧ pz_Tt i tr c) ∨ (d' c = none ∧ ¬ pz_Tt i tr c)) ∧ pz_heap z n' (pz_K d') B h' s' ∧ ∀ c, c < z → (B c).isSome = (d' c).isSome) ?_ N 0 _ (by omega) ⟨0, _, _, _, fun _ => none, fun _ => none, rfl, ?_, ?_, ⟨fun _ => 0, ⟨?_, ?_, ?_⟩, ?_, ?_, ?_⟩, ?_⟩ (by omega)
  · rintro rc i _ hi ⟨n1, r1, h1, s1, B1, d1, rfl, hrow, hd, hheap, hB⟩ hrc
    simp only [pz_T_ite, pz_T_gd, pz_T_let, pz_T_b1, pz_T_some]
    simp (disch := omega) only [pz_cs_gi8, pz_cs_gi, pz_cs_gl, pz_cs_ga19, pz_cs_ga20, pz_cs_ga, pz_cs_gA17, pz_cs_gA18, pz_cs_gA, pz_cs_gp, pz_cs_si8, pz_cs_sa19, pz_cs_sa20, pz_cs_sA17, pz_cs_sA18, g7, pz_leI]
    refine ⟨fun hge => ?_, fun hlt => ?_⟩
    · have : i = ts := by omega
      subst this
      exact ⟨n1, r1, h1, s1, B1, d1, rfl, hrow, hd, hheap, hB⟩
    · obtain ⟨hm1, hm2⟩ := hmem i (by omega)
      simp (disch := omega) only [pz_in, nI_clampI, hm1, nI_1]
      have hK : ∀ c, pz_K d1 c = 0 := by
        intro c
        unfold pz_K
        rcases hd c with ⟨h, -⟩ | ⟨h, -⟩ <;> rw [h] <;> rfl
      have hdu : ∀ c, (pz_du d1 (tr i) 0 c = some 0 ∧ pz_Tt (i + 1) tr c) ∨ (pz_du d1 (tr i) 0 c = none ∧ ¬ pz_Tt (i + 1) tr c) := by
        intro c
        by_cases e : c = tr i
        · subst e
          exact Or.inl ⟨pz_du_s, i, by omega, rfl⟩
        · rw [pz_du_n e]
          rcases hd c with ⟨h, j, hj, hj2⟩ | ⟨h, hn⟩
          · exact Or.inl ⟨h, j, by omega, hj2⟩
          · refine Or.inr ⟨h, ?_⟩
            rintro ⟨j, hj, hj2⟩
            by_cases e2 : j = i
            · subst e2; exact e hj2.symm
            · exact hn ⟨j, by omega, hj2⟩
      have hK2 : ∀ c, pz_K (pz_du d1 (tr i) 0) c = 0 := by
        intro c
        unfold pz_K
        rcases hdu c with ⟨h, -⟩ | ⟨h, -⟩ <;> rw [h] <;> rfl
      have hrow2 : pz_row z (vp_updL r1 (tr i) 0) (pz_du d1 (tr i) 0) := pz_row_du (v := 0) hrow
      refine ⟨by omega, hm2, by omega, ?_⟩
      refine pz_T_mono (pz_c_put (K := pz_K (pz_du d1 (tr i) 0)) hz hN hm2 hheap (fun c _ _ => by rw [hK, hK2]) (fun _ => by rw [hK, hK2]; exact Nat.le_refl _) ?_) ?_
      · intro c hc hor
        rw [hK2, hrow2 c hc]
        have : pz_du d1 (tr i) 0 c = some 0 := by
          by_cases e : c = tr i
          · subst e; exact pz_du_s
          · rw [pz_du_n e]
            rcases hor with hor | hor
            · rw [hB c hc] at hor
              rcases hd c with ⟨h, -⟩ | ⟨h, -⟩
              · exact h
              · rw [h] at hor; cases hor
            · exact absurd hor e
        rw [this]
        exact ⟨rfl, by omega⟩
      · rintro S' ⟨n2, B2, h2, s2, rfl, hheap2, hB2⟩
        refine hrc (by omega) _ ⟨n2, _, h2, s2, B2, _, rfl, hrow2, hdu, hheap2, ?_⟩
        intro c hc
        rw [hB2 c hc, hB c hc]
        by_cases e : c = tr i
        · subst e; rw [pz_du_s]; simp
        · rw [pz_du_n e]; simp [e]
  · intro c hc
    show (if c < z then (-1 : Int64) else d c) = pz_lo none
    rw [if_pos hc]; rfl
  · intro c
    refine Or.inr ⟨rfl, ?_⟩
    rintro ⟨j, hj, -⟩
    omega
  · intro i hi; omega
  · intro c i hc hb; cases hb
  · clear hmem
    induction z with
    | zero => rfl
    | succ z ih =>
      have : ∀ m, pz_cnt (fun _ => (none : Option Nat).isSome) m = 0 := by
        intro m
        induction m with
        | zero => rfl
        | succ m ihm => simp only [pz_cnt, ihm]; rfl
      exact (this _).symm
  · intro i hi hin; omega
  · intro i hi; omega
  · intro c hc
    show (if c < z then (-1 : Int32) else s c) = pz_o none
    rw [if_pos hc]; rfl
  · intro c hc; rfl
def pz_xp (d B : Nat → Option Nat) (c : Nat) : Bool := (d c).isSome && !(B c).isSome
theorem pz_xp_t {d B : Nat → Option Nat} {c : Nat} : pz_xp d B c = true ↔ (d c).isSome = true ∧ (B c).isSome = false := by
  unfold pz_xp
  simp
theorem pz_some_of {d : Nat → Option Nat} {c : Nat} (h : (d c).isSome = true) : ∃ v, d c = some v := Option.isSome_iff_exists.mp h
/-- the search going on from x at the distance a -/
def pz_sp (z : Nat) (E : Nat → Nat → Nat → Prop) (T : Nat → Prop) (x a : Nat) (d B : Nat → Option Nat) : Prop := pz_ok E T d ∧ pz_rb z d ∧ (∀ c, c < z → (B c).isSome = true → (d c).isSome = true) ∧ (∀ b, b < z → b ≠ x → pz_xp d B b = true → pz_rx E d d b) ∧
  (∀ b u, b < z → pz_xp d B b = true → d b = some u → u ≤ a) ∧ (∀ c v, c < z → (B c).isSome = true → d c = some v → a ≤ v) ∧ d x = some a ∧ (B x).isSome = false
theorem pz_c_spread {W H D : Nat} {e : pz_Env} (he : pz_ev W H D e) {k : Int32} {S : zz_St} (hm : pz_cenv W H D e k S) {N : Nat} (hN : 2000 ≤ N) {rip : Bool} {T : Nat → Prop} {n x a : Nat} {r t : Nat → Int64} {h s : Nat → Int32} {d B : Nat → Option Nat} (hx : x < (W * H * D))
    (ht : pz_tolls (W * H * D) e rip t (pz_tl W H D e rip)) (hrow : pz_row (W * H * D) r d) (hheap : pz_heap (W * H * D) n (pz_K d) B h s) (hsp : pz_sp (W * H * D) (pz_E W H D e rip) T x a d B) :
    pz_T (zf_X4_spreadFrom N (W * H * D) (pz_cs S (nI n) r t h s) (nI x)) (fun S' => ∃ n' r' h' s' d' B', S' = pz_cs S (nI n') r' t h' s' ∧ pz_row (W * H * D) r' d' ∧ pz_heap (W * H * D) n' (pz_K d') B' h' s' ∧ pz_sp (W * H * D) (pz_E W H D e rip) T x a d' B' ∧ pz_rx (pz_E W H D e rip) d' d' x ∧ ∀ c, c < (W * H * D) → pz_xp d' B' c = pz_xp d B c ∧ (pz_xp d B c = true → d' c = d c)) := by
  have hs := he.1
  have hz := hs.2.2.2.2.1
  unfold zf_X4_spreadFrom
  rw [pz_T_b1, pz_T_eq (pz_c_layerOf hs (pz_cgeo_cs hm.1) (by omega)), pz_T_let, pz_T_let]
  refine pz_for2 (e := 6) (fun m S' => ∃ n' r' h' s' d' B', S' = pz_cs S (nI n') r' t h' s' ∧ pz_row (W * H * D) r' d' ∧ pz_heap (W * H * D) n' (pz_K d') B' h' s' ∧ pz_sp (W * H * D) (pz_E W H D e rip) T x a d' B' ∧ (∀ m', m' < m → ∀ c, pz_nb W H D x m' = some c → pz_can e rip c = true → ∃ v, d' c = some v ∧ v ≤ a + pz_wt W H D e rip x m' c) ∧ ∀ c, c < (W * H * D) → pz_xp d' B' c = pz_xp d B c ∧ (pz_xp d B c = true → d' c = d c)) ?_ N 0 _ (by omega) ⟨n, r, h, s, d, B, rfl, hrow, hheap, hsp, fun m' h => by omega, fun c _ => ⟨rfl, fun _ => rfl⟩⟩ (by omega)
  rintro rc m _ hm6 ⟨n1, r1, h1, s1, d1, B1, rfl, hrow1, hheap1, hsp1, hdone, hxp⟩ hrc
  obtain ⟨hok, hrb, hin, hrx, hle, hge, hdx, hBx⟩ := hsp1
  have hbd : ∀ j v, d1 j = some v → v ≤ 2048000000000 := fun j v h => pz_rb_le hz hrb h
  rw [pz_T_ite, pz_c5b (by omega)]
  refine ⟨fun h5 => ?_, fun h5 => ?_⟩
  · rw [pz_T_some]
    refine ⟨n1, r1, h1, s1, d1, B1, rfl, hrow1, hheap1, ⟨hok, hrb, hin, hrx, hle, hge, hdx, hBx⟩, ?_, hxp⟩
    rintro c w a' ⟨-, m', hm', hnb, hcan, rfl⟩ ha'
    rw [hdx] at ha'
    cases ha'
    exact hdone m' (by omega) c hnb hcan
  · rw [pz_T_b1, pz_T_eq (pz_c_neighbour hs (pz_cgeo_cs hm.1) hx (by omega))]
    have hcont : (∀ c, pz_nb W H D x m = some c → pz_can e rip c = true → ∃ v, d1 c = some v ∧ v ≤ a + pz_wt W H D e rip x m c) → pz_T (rc (nI (m + 1)) (pz_cs S (nI n1) r1 t h1 s1)) (fun S' => ∃ n' r' h' s' d' B', S' = pz_cs S (nI n') r' t h' s' ∧ pz_row (W * H * D) r' d' ∧ pz_heap (W * H * D) n' (pz_K d') B' h' s' ∧ pz_sp (W * H * D) (pz_E W H D e rip) T x a d' B' ∧ pz_rx (pz_E W H D e rip) d' d' x ∧ ∀ c, c < (W * H * D) → pz_xp d' B' c = pz_xp d B c ∧ (pz_xp d B c = true → d' c = d c)) := by
      intro hq
      refine hrc (by omega) _ ⟨n1, r1, h1, s1, d1, B1, rfl, hrow1, hheap1, ⟨hok, hrb, hin, hrx, hle, hge, hdx, hBx⟩, ?_, hxp⟩
      intro m' hm' c hnb hcan
      by_cases e1 : m' = m
      · subst e1; exact hq c hnb hcan
      · exact hdone m' (by omega) c hnb hcan
    cases hnb : pz_nb W H D x m with
    | none =>
      simp only [pz_T_let, pz_T_jn1, pz_T_ite]
      rw [nI_1]
      exact ⟨fun _ => hcont (fun c h => by rw [hnb] at h; cases h), fun h => absurd rfl h⟩
    | some c' =>
      have hc' := pz_nb_lt hs.1 hs.2.1 hx hnb
      have htc := ht c' hc'
      have htl := pz_tl_le he (rip := rip) hc'
      have hwt := pz_wt_le he (rip := rip) (n := m) hx hc'
      simp only [pz_T_ite, pz_T_gd, pz_T_jn1, pz_T_jn2, pz_T_some, pz_T_let, pz_T_b1, pz_T_b2]
      simp (disch := omega) only [pz_o_s, pz_nm1, pz_in, nI_clampI, pz_cs_gi8, pz_cs_gi, pz_cs_gl, pz_cs_ga19, pz_cs_ga20, pz_cs_ga, pz_cs_gA17, pz_cs_gA18, pz_cs_gA, pz_cs_gp, pz_cs_si8, pz_cs_sa19, pz_cs_sa20, pz_cs_sA17, pz_cs_sA18, nI_1, pz_l_eq, pz_l_ge]
      refine ⟨fun h => h.elim, fun _ => ⟨hc', fun hcl => ?_, fun hcl => ⟨hx, ?_⟩⟩⟩
      · refine hcont (fun c h hcan => ?_)
        rw [hnb] at h
        cases h
        rw [hcan] at htc
        rw [htc] at hcl
        simp only [if_true] at hcl
        rw [pz_lN_m1 (by omega)] at hcl
        exact hcl.elim
      · have hcan : pz_can e rip c' = true := by
          cases hcan : pz_can e rip c'
          · rw [hcan] at htc
            exact absurd (by rw [htc]; rfl) hcl
          · rfl
        rw [hcan] at htc
        simp only [if_true] at htc
        have hedge : (pz_E W H D e rip) x c' (pz_wt W H D e rip x m c') := ⟨hx, m, by omega, hnb, hcan, rfl⟩
        have hdxa := hbd x a hdx
        rw [pz_T_eq (pz_c_ofMove he (pz_cenv_cs hm _ _ _ _ _).2.2 hx (by omega) hnb)]
        have hmvb : pz_mv (W * H) e x m ≤ 50 := by
          have h1 := pz_lay4 hs hx
          have h2 := he.2.1 _ h1
          have h3 := he.2.1 (x / (W * H) - 1) (by omega)
          unfold pz_mv
          repeat' split
          all_goals omega
        have hsum : r1 x + (nI (2 + pz_mv (W * H) e x m)).toInt64 + t c' = lN (a + pz_wt W H D e rip x m c') := by
          rw [hrow1 x hx, hdx, pz_lo_s, nI_l (by omega), htc, lN_add, lN_add]
          unfold pz_wt
          congr 1
          omega
        rw [hsum, hrow1 c' hc']
        have hupd : (∀ u, d1 c' = some u → a + pz_wt W H D e rip x m c' < u) → pz_T (zf_X0_put N (W * H * D) (pz_cs S (nI n1) (vp_updL r1 c' (lN (a + pz_wt W H D e rip x m c'))) t h1 s1) (nI c')) (fun v => pz_T (rc (nI (m + 1)) v) (fun S' => ∃ n' r' h' s' d' B', S' = pz_cs S (nI n') r' t h' s' ∧ pz_row (W * H * D) r' d' ∧ pz_heap (W * H * D) n' (pz_K d') B' h' s' ∧ pz_sp (W * H * D) (pz_E W H D e rip) T x a d' B' ∧ pz_rx (pz_E W H D e rip) d' d' x ∧ ∀ c, c < (W * H * D) → pz_xp d' B' c = pz_xp d B c ∧ (pz_xp d B c = true → d' c = d c))) := by
          intro hu
          have hcx : c' ≠ x := by
            intro h
            subst h
            have := hu a hdx
            omega
          have hl2 : pz_lte d1 (pz_du d1 c' (a + pz_wt W H D e rip x m c')) := pz_lte_du (fun u h => by have := hu u h; omega)
          have hxc : pz_xp d1 B1 c' = false := by
            cases hq : pz_xp d1 B1 c'
            · rfl
            · obtain ⟨q1, q2⟩ := pz_xp_t.mp hq
              obtain ⟨u, hu1⟩ := pz_some_of q1
              have := hle c' u hc' hq hu1
              have := hu u hu1
              omega
          have hrow2 := pz_row_du (c := c') (v := a + pz_wt W H D e rip x m c') hrow1
          have hrb2 : pz_rb (W * H * D) (pz_du d1 c' (a + pz_wt W H D e rip x m c')) := pz_rb_du hrb hc' hdx (by omega) (fun u h => by have := hu u h; omega)
          refine pz_T_mono (pz_c_put (K := pz_K (pz_du d1 c' (a + pz_wt W H D e rip x m c'))) hz hN hc' hheap1 ?_ ?_ ?_) ?_
          · intro c _ hne
            unfold pz_K
            rw [pz_du_n hne]
          · intro hq
            obtain ⟨u, hu1⟩ := pz_some_of (hin c' hc' hq)
            have := hu u hu1
            unfold pz_K
            rw [pz_du_s, hu1]
            simp
            omega
          · intro c hc hor
            have : ∃ v, pz_du d1 c' (a + pz_wt W H D e rip x m c') c = some v := by
              by_cases e1 : c = c'
              · subst e1; exact ⟨_, pz_du_s⟩
              · rw [pz_du_n e1]
                rcases hor with hor | hor
                · exact pz_some_of (hin c hc hor)
                · exact absurd hor e1
            obtain ⟨v, hv⟩ := this
            have hvb := pz_rb_le hz hrb2 hv
            rw [hrow2 c hc]
            unfold pz_K
            rw [hv]
            exact ⟨rfl, by simp; omega⟩
          · rintro S' ⟨n2, B2, h2, s2, rfl, hheap2, hB2⟩
            have hxp2 : ∀ c, c < (W * H * D) → pz_xp (pz_du d1 c' (a + pz_wt W H D e rip x m c')) B2 c = pz_xp d1 B1 c := by
              intro c hc
              by_cases e1 : c = c'
              · subst e1
                rw [hxc]
                unfold pz_xp
                rw [hB2 c hc]
                simp
              · unfold pz_xp
                rw [hB2 c hc, pz_du_n e1]
                simp [e1]
            have hne : ∀ c, c < (W * H * D) → pz_xp d1 B1 c = true → c ≠ c' := by
              intro c hc hq h
              subst h
              rw [hxc] at hq
              cases hq
            refine hrc (by omega) _ ⟨n2, _, h2, s2, _, B2, rfl, hrow2, hheap2, ⟨pz_ok_du hok hdx hedge hu, hrb2, ?_, ?_, ?_, ?_, ?_, ?_⟩, ?_, ?_⟩
            · intro c hc hb
              by_cases e1 : c = c'
              · subst e1; rw [pz_du_s]; rfl
              · rw [pz_du_n e1]
                rw [hB2 c hc] at hb
                simp [e1] at hb
                exact hin c hc hb
            · intro b hb hbx hq c w a2 hE hda
              rw [hxp2 b hb] at hq
              rw [pz_du_n (hne b hb hq)] at hda
              obtain ⟨v, hv, hva⟩ := hrx b hb hbx hq c w a2 hE hda
              obtain ⟨u, hu1, hu2⟩ := hl2 c v hv
              exact ⟨u, hu1, by omega⟩
            · intro b u hb hq hda
              rw [hxp2 b hb] at hq
              rw [pz_du_n (hne b hb hq)] at hda
              exact hle b u hb hq hda
            · intro c v hc hb hda
              by_cases e1 : c = c'
              · subst e1
                rw [pz_du_s] at hda
                cases hda
                omega
              · rw [pz_du_n e1] at hda
                rw [hB2 c hc] at hb
                simp [e1] at hb
                exact hge c v hc hb hda
            · rw [pz_du_n (Ne.symm hcx)]; exact hdx
            · rw [hB2 x hx, hBx]
              simp [Ne.symm hcx]
            · intro m' hm' c hnb2 hcan2
              by_cases e1 : m' = m
              · subst e1
                rw [hnb] at hnb2
                cases hnb2
                exact ⟨_, pz_du_s, Nat.le_refl _⟩
              · obtain ⟨v, hv, hva⟩ := hdone m' (by omega) c hnb2 hcan2
                obtain ⟨u, hu1, hu2⟩ := hl2 c v hv
                exact ⟨u, hu1, by omega⟩
            · intro c hc
              rw [hxp2 c hc]
              refine ⟨(hxp c hc).1, fun hq => ?_⟩
              have hq2 := hq
              rw [← (hxp c hc).1] at hq2
              rw [pz_du_n (hne c hc hq2)]
              exact (hxp c hc).2 hq
        refine ⟨hc', hc', fun hm1 => ⟨hc', hupd ?_⟩, fun hm1 => ⟨hc', fun hge2 => hcont ?_, fun hlt2 => ⟨hc', hupd ?_⟩⟩⟩
        · intro u hu
          have := hbd c' u hu
          rw [hu, pz_lo_s, pz_lN_m1 (by omega)] at hm1
          exact hm1.elim
        · intro c hnb2 _
          rw [hnb] at hnb2
          cases hnb2
          cases hq : d1 c' with
          | none => rw [hq] at hm1; exact absurd rfl hm1
          | some u =>
            have := hbd c' u hq
            rw [hq, pz_lo_s, pz_lN_le (by omega) (by omega)] at hge2
            exact ⟨u, rfl, hge2⟩
        · intro u hu
          have := hbd c' u hu
          rw [hu, pz_lo_s, pz_lN_le (by omega) (by omega)] at hlt2
          omega

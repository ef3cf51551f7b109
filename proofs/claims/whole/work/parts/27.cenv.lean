/-- the class's rows -/
def pz_cenv (W H D : Nat) (e : pz_Env) (k : Int32) (S : zz_St) : Prop := pz_cgeo W H D S ∧ (∀ c, c < W * H * D → zz_ga S 8 c = pe_bar e c ∧ zz_ga S 9 c = pe_pin e c ∧ ((zz_ga S 10 c ≠ -1 ∧ zz_ga S 10 c ≠ k) ↔ pe_fg e c = true) ∧ zz_gA S 12 c = lN (pe_hist e c)) ∧
  ∀ l, l < 4 → zz_ga S 13 l = nI (pe_ac e l) ∧ zz_ga S 14 l = nI (pe_via e l) ∧ zz_ga S 15 l = nI (pe_nr e l)
theorem pz_cgeo_cs {W H D : Nat} {S : zz_St} (h : pz_cgeo W H D S) {n : Int32} {d t : Nat → Int64} {hh s : Nat → Int32} : pz_cgeo W H D (pz_cs S n d t hh s) := by
  unfold pz_cgeo
  simp (disch := omega) only [pz_cs_gi8, pz_cs_gi, pz_cs_gl, pz_cs_ga19, pz_cs_ga20, pz_cs_ga, pz_cs_gA17, pz_cs_gA18, pz_cs_gA, pz_cs_gp, pz_cs_si8, pz_cs_sa19, pz_cs_sa20, pz_cs_sA17, pz_cs_sA18]
  exact h
theorem pz_cenv_cs {W H D : Nat} {e : pz_Env} {k : Int32} {S : zz_St} (h : pz_cenv W H D e k S) (n : Int32) (d t : Nat → Int64) (hh s : Nat → Int32) : pz_cenv W H D e k (pz_cs S n d t hh s) := by
  refine ⟨pz_cgeo_cs h.1, ?_, ?_⟩
  · simp (disch := omega) only [pz_cs_gi8, pz_cs_gi, pz_cs_gl, pz_cs_ga19, pz_cs_ga20, pz_cs_ga, pz_cs_gA17, pz_cs_gA18, pz_cs_gA, pz_cs_gp, pz_cs_si8, pz_cs_sa19, pz_cs_sa20, pz_cs_sA17, pz_cs_sA18]
    exact h.2.1
  · simp (disch := omega) only [pz_cs_gi8, pz_cs_gi, pz_cs_gl, pz_cs_ga19, pz_cs_ga20, pz_cs_ga, pz_cs_gA17, pz_cs_gA18, pz_cs_gA, pz_cs_gp, pz_cs_si8, pz_cs_sa19, pz_cs_sa20, pz_cs_sA17, pz_cs_sA18]
    exact h.2.2
theorem pz_c_other {W H D : Nat} {e : pz_Env} {k : Int32} {S : zz_St} (hs : pz_siz W H D) (hm : pz_cenv W H D e k S) {N c : Nat} (hc : c < W * H * D) : zf_X1_heldByOther N (W * H * D) S (nI c) k = some (pz_b (pe_fg e c)) := by
  have hz := hs.2.2.2.2.1
  obtain ⟨h1, h2, h3, -⟩ := hm.2.1 c hc
  apply pz_eq_of
  unfold zf_X1_heldByOther
  simp only [pz_T_ite, pz_T_gd, pz_T_jn1, pz_T_jn2, pz_T_some, pz_T_let, pz_T_b1, pz_T_b2]
  simp (disch := omega) only [pz_in, nI_clampI, pz_bl0, pz_bl1, true_and, hc]
  cases hf : pe_fg e c
  · refine ⟨fun _ => rfl, fun q1 => ⟨fun _ => rfl, fun q2 => ?_⟩⟩
    rw [h3.mp ⟨q1, q2⟩] at hf
    cases hf
  · obtain ⟨q1, q2⟩ := h3.mpr hf
    exact ⟨fun q => absurd q q1, fun _ => ⟨fun q => absurd q q2, fun _ => rfl⟩⟩
theorem pz_c_ofMove {W H D : Nat} {e : pz_Env} (he : pz_ev W H D e) {S : zz_St} (hl : ∀ l, l < 4 → zz_ga S 13 l = nI (pe_ac e l) ∧ zz_ga S 14 l = nI (pe_via e l) ∧ zz_ga S 15 l = nI (pe_nr e l)) {N c n d : Nat} (hc : c < W * H * D) (hn : n < 6) (hnb : pz_nb W H D c n = some d) :
    zf_X3_ofMove N (W * H * D) S (nI (c / (W * H))) (nI n) = some (nI (2 + pz_mv (W * H) e c n)) := by
  have hs := he.1
  have hlay := pz_nb_lay hs.1 hs.2.1 hc hn hnb
  have hlc := pz_lay4 hs hc
  apply pz_eq_of
  unfold zf_X3_ofMove
  unfold pz_mv
  generalize c / (W * H) = lc at *
  generalize d / (W * H) = ld at *
  have h2 : ∀ m : Nat, (2 : Int32) + nI m = nI (2 + m) := fun m => nI_add 2 m
  have hv := (hl lc hlc).2.1
  have ha := (hl lc hlc).1
  simp only [pz_T_ite, pz_T_gd, pz_T_jn1, pz_T_jn2, pz_T_some, pz_T_let, pz_T_b1, pz_T_b2]
  rcases pz_six hn with rfl | rfl | rfl | rfl | rfl | rfl
  · have h0 := hlay.1 rfl
    have hv' := (hl (lc - 1) (by omega)).2.1
    simp (disch := omega) only [pz_c5e, pz_c0e, pz_c0c, pz_sub1, pz_in, nI_clampI, hv', h2]
    simp
    omega
  all_goals
    simp (disch := omega) only [pz_c5e, pz_c0e, pz_c0c, pz_c1e, pz_c2e, pz_c3e, pz_c4e, pz_r2, pz_q2, pz_in, nI_clampI, hv, ha, h2, true_and]
    by_cases hp : lc % 2 = 0
    · simp [hp, hlc]; try rfl
    · simp [hp, hlc]; try rfl
theorem pz_mv_sym {W H D : Nat} {e : pz_Env} (hs : pz_siz W H D) {c n d : Nat} (hc : c < W * H * D) (hn : n < 6) (hnb : pz_nb W H D c n = some d) : pz_mv (W * H) e d (5 - n) = pz_mv (W * H) e c n := by
  have hlay := pz_nb_lay hs.1 hs.2.1 hc hn hnb
  unfold pz_mv
  generalize c / (W * H) = lc at *
  generalize d / (W * H) = ld at *
  rcases pz_six hn with rfl | rfl | rfl | rfl | rfl | rfl
  · have := hlay.1 rfl
    simp [show ld = lc - 1 by omega]
  · have := hlay.2.2 (by omega) (by omega)
    subst this; simp
  · have := hlay.2.2 (by omega) (by omega)
    subst this; simp
  · have := hlay.2.2 (by omega) (by omega)
    subst this; simp
  · have := hlay.2.2 (by omega) (by omega)
    subst this; simp
  · have := hlay.2.1 rfl
    subst this; simp
/-- tolls -/
def pz_is (x : Option Nat) (c : Nat) : Nat := if x = some c then 1 else 0
def pz_is4 (W H D v c : Nat) : Nat → Nat
  | 0 => 0
  | m + 1 => pz_is4 W H D v c m + pz_is (pz_nb W H D v (m + 1)) c
def pz_lim (e : pz_Env) (v : Nat) : pz_Env := ((pe_bar e, pe_pin e, fun x => pe_fg e x && decide (x < v)), e.2)
theorem pz_lim_fg {e : pz_Env} {v x : Nat} : pe_fg (pz_lim e v) x = (pe_fg e x && decide (x < v)) := Eq.trans rfl rfl
theorem pz_is_sym {W H D v c m : Nat} (hs : pz_siz W H D) (hv : v < W * H * D) (hc : c < W * H * D) (hm : m < 6) : pz_is (pz_nb W H D v m) c = pz_is (pz_nb W H D c (5 - m)) v := by
  unfold pz_is
  by_cases h : pz_nb W H D v m = some c
  · rw [if_pos h, if_pos (pz_nb_sym hs.1 hs.2.1 hv hm h)]
  · rw [if_neg h, if_neg]
    intro h'
    apply h
    have := pz_nb_sym hs.1 hs.2.1 hc (by omega) h'
    rwa [show 5 - (5 - m) = m by omega] at this
theorem pz_is4_sym {W H D v c : Nat} (hs : pz_siz W H D) (hv : v < W * H * D) (hc : c < W * H * D) : pz_is4 W H D v c 4 = pz_is4 W H D c v 4 := by
  simp only [pz_is4]
  rw [pz_is_sym hs hv hc (m := 0 + 1) (by omega), pz_is_sym hs hv hc (m := 1 + 1) (by omega), pz_is_sym hs hv hc (m := 2 + 1) (by omega), pz_is_sym hs hv hc (m := 3 + 1) (by omega)]
  simp only [Nat.reduceAdd, Nat.reduceSub]
  omega
theorem pz_ps_lim0 {W H D : Nat} {e : pz_Env} {c : Nat} (m : Nat) : pz_ps W H D (pz_lim e 0) c m = 0 := by
  induction m with
  | zero => rfl
  | succ m ih =>
    simp only [pz_ps, ih]
    unfold pz_f1
    split
    · simp [pz_lim_fg]
    · rfl
theorem pz_ps_limz {W H D : Nat} {e : pz_Env} (hs : pz_siz W H D) {c : Nat} (hc : c < W * H * D) (m : Nat) : pz_ps W H D (pz_lim e (W * H * D)) c m = pz_ps W H D e c m := by
  induction m with
  | zero => rfl
  | succ m ih =>
    simp only [pz_ps, ih]
    congr 1
    unfold pz_f1
    cases hx : pz_nb W H D c (m + 1) with
    | none => rfl
    | some x =>
      have := pz_nb_lt hs.1 hs.2.1 hc hx
      simp [pz_lim_fg, this]
theorem pz_ps_lims {W H D : Nat} {e : pz_Env} {c v : Nat} (m : Nat) : pz_ps W H D (pz_lim e (v + 1)) c m = pz_ps W H D (pz_lim e v) c m + (if pe_fg e v then pz_is4 W H D c v m else 0) := by
  induction m with
  | zero => simp [pz_ps, pz_is4]
  | succ m ih =>
    simp only [pz_ps, pz_is4, ih]
    have : pz_f1 W H D (pz_lim e (v + 1)) c (m + 1) = pz_f1 W H D (pz_lim e v) c (m + 1) + (if pe_fg e v then pz_is (pz_nb W H D c (m + 1)) v else 0) := by
      unfold pz_f1 pz_is
      cases hx : pz_nb W H D c (m + 1) with
      | none => simp
      | some x =>
        simp only [pz_lim_fg]
        by_cases e1 : x = v
        · subst e1
          cases hfx : pe_fg e x <;> simp
        · have h1 : decide (x < v + 1) = decide (x < v) := by simp; omega
          simp [h1, e1]
    rw [this]
    split <;> omega
theorem pz_is4_le {W H D v c : Nat} (m : Nat) : pz_is4 W H D v c m ≤ m := by
  induction m with
  | zero => simp [pz_is4]
  | succ m ih =>
    simp only [pz_is4]
    unfold pz_is
    split <;> omega
theorem pz_is4_lay {W H D v c : Nat} (hs : pz_siz W H D) (hv : v < W * H * D) (f : Nat → Nat) {m : Nat} (hm : m ≤ 4) : f (v / (W * H)) * pz_is4 W H D v c m = f (c / (W * H)) * pz_is4 W H D v c m := by
  induction m with
  | zero => simp [pz_is4]
  | succ m ih =>
    simp only [pz_is4, Nat.mul_add]
    rw [ih (by omega)]
    congr 1
    unfold pz_is
    by_cases h : pz_nb W H D v (m + 1) = some c
    · have := (pz_nb_lay hs.1 hs.2.1 hv (by omega) h).2.2 (by omega) (by omega)
      rw [this]
    · rw [if_neg h]
      simp
def pz_tolls (z : Nat) (e : pz_Env) (rip : Bool) (t : Nat → Int64) (f : Nat → Nat) : Prop := ∀ c, c < z → t c = if pz_can e rip c then lN (f c) else -1
theorem pz_c_raise {W H D : Nat} {e : pz_Env} (he : pz_ev W H D e) {k : Int32} {S : zz_St} (hm : pz_cenv W H D e k S) {N v : Nat} (hN : 10 ≤ N) (hv : v < W * H * D) {rip : Bool} {n : Int32} {d t : Nat → Int64} {h s : Nat → Int32} {f : Nat → Nat}
    (ht : pz_tolls (W * H * D) e rip t f) (hf : ∀ c, c < (W * H * D) → f c < 4000000000) :
    pz_T (zf_X4_raiseTollsBeside N (W * H * D) (pz_cs S n d t h s) (nI v)) (fun S' => ∃ t', S' = pz_cs S n d t' h s ∧ pz_tolls (W * H * D) e rip t' (fun c => f c + pe_nr e (v / (W * H)) * pz_is4 W H D v c 4)) := by
  have hs := he.1
  have hz := hs.2.2.2.2.1
  have hlv := pz_lay4 hs hv
  have hnr := (hm.2.2 _ hlv).2.2
  have hnb := (he.2.1 _ hlv).2.2
  unfold zf_X4_raiseTollsBeside
  rw [pz_T_b1, pz_T_eq (pz_c_layerOf hs (pz_cgeo_cs hm.1) (by omega))]
  rw [pz_T_gd, pz_T_let]
  rw [pz_cs_ga (by decide) (by decide), nI_clampI (by omega), hnr, pz_in (by omega)]
  refine ⟨hlv, ?_⟩
  rw [pz_T_let]
  refine pz_for2 (e := 5) (fun m S' => ∃ j t', m = j + 1 ∧ S' = pz_cs S n d t' h s ∧ pz_tolls (W * H * D) e rip t' (fun c => f c + pe_nr e (v / (W * H)) * pz_is4 W H D v c j)) ?_ N 1 _ (by omega) ⟨0, t, rfl, rfl, ?_⟩ (by omega)
  · rintro rc m _ hm5 ⟨j, t', rfl, rfl, ht'⟩ hrc
    simp only [pz_T_ite, pz_T_gd, pz_T_jn1, pz_T_jn2, pz_T_some, pz_T_let, pz_T_b1, pz_T_b2]
    simp (disch := omega) only [pz_c4b, pz_c0c]
    refine ⟨fun h4 => ⟨t', rfl, ?_⟩, fun h4 => ⟨fun h0 => ⟨t', rfl, ?_⟩, fun h0 => ?_⟩⟩
    · have : j = 4 := by omega
      subst this
      exact ht'
    · intro c hc
      have h1 := ht' c hc
      have h2 : pe_nr e (v / (W * H)) = 0 := by omega
      rw [h2] at h1 ⊢
      simpa using h1
    · rw [pz_T_eq (pz_c_neighbour hs (pz_cgeo_cs hm.1) hv (by omega))]
      have hsame : (∀ c, c < (W * H * D) → pz_nb W H D v (j + 1) = some c → pz_can e rip c = false) → pz_T (rc (nI (j + 1 + 1)) (pz_cs S n d t' h s)) (fun S' => ∃ t', S' = pz_cs S n d t' h s ∧ pz_tolls (W * H * D) e rip t' (fun c => f c + pe_nr e (v / (W * H)) * pz_is4 W H D v c 4)) := by
        intro hx
        refine hrc (by omega) _ ⟨j + 1, t', rfl, rfl, ?_⟩
        intro c hc
        rw [ht' c hc]
        simp only [pz_is4]
        by_cases hq : pz_nb W H D v (j + 1) = some c
        · rw [hx c hc hq]
          simp
        · simp [pz_is, hq]
      cases hq : pz_nb W H D v (j + 1) with
      | none =>
        refine ⟨fun _ => ?_, fun hne => absurd rfl hne⟩
        rw [nI_1]
        exact hsame (fun c _ h => by rw [hq] at h; cases h)
      | some y =>
        have hy := pz_nb_lt hs.1 hs.2.1 hv hq
        have hyt := ht' y hy
        have hfy := hf y hy
        have h44 : pz_is4 W H D v y j ≤ 4 := Nat.le_trans (pz_is4_le j) (by omega)
        have h45 : pe_nr e (v / (W * H)) * pz_is4 W H D v y j ≤ 50 * 4 := Nat.mul_le_mul hnb h44
        simp (disch := omega) only [pz_o_s, pz_nm1, pz_in, nI_clampI, pz_cs_gi8, pz_cs_gi, pz_cs_gl, pz_cs_ga19, pz_cs_ga20, pz_cs_ga, pz_cs_gA17, pz_cs_gA18, pz_cs_gA, pz_cs_gp, pz_cs_si8, pz_cs_sa19, pz_cs_sa20, pz_cs_sA17, pz_cs_sA18, nI_1, pz_l_eq, nI_l]
        refine ⟨fun h => h.elim, fun _ => ⟨hy, fun hcl => ?_, fun hcl => ⟨hy, hy, ?_⟩⟩⟩
        · refine hsame (fun c _ h => ?_)
          rw [hq] at h
          cases h
          cases hcan : pz_can e rip y
          · rfl
          · rw [hcan] at hyt
            rw [hyt] at hcl
            simp only [if_true] at hcl
            rw [pz_lN_m1 (by omega)] at hcl
            exact hcl.elim
        · have hcan : pz_can e rip y = true := by
            cases hcan : pz_can e rip y
            · rw [hcan] at hyt
              exact absurd (by rw [hyt]; rfl) hcl
            · rfl
          rw [hcan] at hyt
          refine hrc (by omega) _ ⟨j + 1, _, rfl, rfl, ?_⟩
          intro c hc
          simp only [pz_is4]
          by_cases e1 : c = y
          · subst e1
            rw [pk_uLs, hyt, hcan]
            simp only [if_true, lN_add, pz_is, hq]
            congr 1
            rw [Nat.mul_add]
            omega
          · rw [pk_uLn e1, ht' c hc]
            have : ¬ some y = some c := fun h => e1 (Option.some.inj h).symm
            simp [pz_is, hq, this]
  · intro c hc
    rw [ht c hc]
    simp [pz_is4]
theorem pz_tolls_congr {z : Nat} {e : pz_Env} {rip : Bool} {t : Nat → Int64} {f g : Nat → Nat} (h : pz_tolls z e rip t f) (hfg : ∀ c, c < z → f c = g c) : pz_tolls z e rip t g := by
  intro c hc
  rw [h c hc, hfg c hc]
theorem pz_c_setTolls {W H D : Nat} {e : pz_Env} (he : pz_ev W H D e) {k : Int32} {S : zz_St} (hm : pz_cenv W H D e k S) {N : Nat} (hN : 2000 ≤ N) (rip : Bool) {n : Int32} {d t : Nat → Int64} {h s : Nat → Int32} :
    pz_T (zf_X4_setTolls N (W * H * D) (pz_cs S n d t h s) k (pz_b rip)) (fun S' => ∃ t', S' = pz_cs S n d t' h s ∧ pz_tolls (W * H * D) e rip t' (pz_tl W H D e rip)) := by
  have hs := he.1
  have hz := hs.2.2.2.2.1
  have hg6 := hm.1.2.2.2.2
  unfold zf_X4_setTolls
  rw [pz_T_let]
  refine pz_for2 (e := (W * H * D)) (fun m S' => ∃ t', S' = pz_cs S n d t' h s ∧ ∀ c, c < m → t' c = if pz_can e rip c then lN (pe_hist e c + (if rip && pe_fg e c then 100 else 0)) else -1) ?_ N 0 _ (by omega) ⟨t, rfl, fun c hc => by omega⟩ (by omega)
  rintro rc v _ hv ⟨t1, rfl, ht1⟩ hrc
  rw [pz_T_ite]
  rw [pz_cs_gi (by decide), hg6, pz_leI (by omega) (by omega)]
  refine ⟨fun hge => ?_, fun hlt => ?_⟩
  · have hv' : v = (W * H * D) := by omega
    subst hv'
    rw [pz_T_let]
    refine pz_for2 (e := (W * H * D)) (fun m S' => ∃ t', S' = pz_cs S n d t' h s ∧ pz_tolls (W * H * D) e rip t' (fun c => pe_hist e c + (if rip && pe_fg e c then 100 else 0) + pe_nr e (c / (W * H)) * pz_ps W H D (pz_lim e m) c 4)) ?_ N 0 _ (by omega) ⟨t1, rfl, ?_⟩ (by omega)
    · rintro rc2 v _ hv2 ⟨t2, rfl, ht2⟩ hrc2
      rw [pz_T_ite]
      rw [pz_cs_gi (by decide), hg6, pz_leI (by omega) (by omega)]
      refine ⟨fun hge2 => ?_, fun hlt2 => ?_⟩
      · have hv' : v = (W * H * D) := by omega
        subst hv'
        rw [pz_T_some]
        refine ⟨t2, rfl, pz_tolls_congr ht2 ?_⟩
        intro c hc
        rw [pz_ps_limz hs hc]
        rfl
      · rw [pz_T_b1, pz_T_eq (pz_c_other hs (pz_cenv_cs hm _ _ _ _ _) (by omega))]
        simp only [pz_T_ite, pz_T_gd, pz_T_jn1, pz_T_jn2, pz_T_some, pz_T_let, pz_T_b1, pz_T_b2, pz_b_0]
        rw [nI_1]
        refine ⟨fun hf => ?_, fun hf => ?_⟩
        · refine hrc2 (by omega) _ ⟨t2, rfl, pz_tolls_congr ht2 ?_⟩
          intro c hc
          rw [pz_ps_lims, hf]
          simp
        · have hf' : pe_fg e v = true := by simpa using hf
          have hbound : ∀ c, c < (W * H * D) → pe_hist e c + (if rip && pe_fg e c then 100 else 0) + pe_nr e (c / (W * H)) * pz_ps W H D (pz_lim e v) c 4 < 4000000000 := by
            intro c hc
            have h1 := he.2.2 c hc
            have h2 : pe_nr e (c / (W * H)) * pz_ps W H D (pz_lim e v) c 4 ≤ 50 * 4 := Nat.mul_le_mul (he.2.1 _ (pz_lay4 hs hc)).2.2 (pz_ps_le 4)
            split <;> omega
          refine pz_T_mono (pz_c_raise he hm (by omega) (by omega) ht2 hbound) ?_
          rintro S' ⟨t3, rfl, ht3⟩
          refine hrc2 (by omega) _ ⟨t3, rfl, pz_tolls_congr ht3 ?_⟩
          intro c hc
          rw [pz_ps_lims, hf', pz_is4_lay hs (by omega) (pe_nr e) (by omega), pz_is4_sym hs (by omega) hc]
          simp only [if_true, Nat.mul_add]
          omega
    · intro c hc
      rw [ht1 c hc]
      simp [pz_ps_lim0]
  · rw [pz_T_b1, pz_T_eq (pz_c_other hs (pz_cenv_cs hm _ _ _ _ _) (by omega))]
    obtain ⟨hb, hp, -, hh⟩ := hm.2.1 v (by omega)
    have key : ∀ x, (x = if pz_can e rip v then lN (pe_hist e v + (if rip && pe_fg e v then 100 else 0)) else -1) → pz_T (rc (nI (v + 1)) (pz_cs S n d (vp_updL t1 v x) h s)) (fun S' => ∃ t', S' = pz_cs S n d t' h s ∧ pz_tolls (W * H * D) e rip t' (pz_tl W H D e rip)) := by
      intro x hx
      refine hrc (by omega) _ ⟨_, rfl, fun c hc => ?_⟩
      by_cases e1 : c = v
      · subst e1; rw [pk_uLs]; exact hx
      · rw [pk_uLn e1]; exact ht1 c (by omega)
    simp only [pz_T_ite, pz_T_gd, pz_T_jn1, pz_T_jn2, pz_T_some, pz_T_let, pz_T_b1, pz_T_b2]
    simp (disch := omega) only [pz_cs_gi8, pz_cs_gi, pz_cs_gl, pz_cs_ga19, pz_cs_ga20, pz_cs_ga, pz_cs_gA17, pz_cs_gA18, pz_cs_gA, pz_cs_gp, pz_cs_si8, pz_cs_sa19, pz_cs_sa20, pz_cs_sA17, pz_cs_sA18, pz_in, nI_clampI, nI_1, pz_b_0, hb, hp, hh, pz_l0, pz_l100]
    unfold pz_can at key
    have hvz : v < (W * H * D) := by omega
    by_cases q1 : pe_bar e v = 0
    · cases q2 : pe_fg e v
      · rw [q1, q2] at key
        simp [q1, hvz]
        exact key _ (by simp)
      · rw [q1, q2] at key
        cases hrip : rip
        · rw [hrip] at key
          simp [q1, hvz]
          exact key _ (by simp)
        · rw [hrip] at key
          by_cases q3 : pe_pin e v = 0
          · rw [q3] at key
            simp [q1, q3, hvz]
            exact key _ (by simp)
          · simp [q1, q3, hvz]
            exact key _ (by simp [q3])
    · simp [q1, hvz]
      exact key _ (by simp [q1])

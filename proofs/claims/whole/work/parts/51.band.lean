def pr_vb (v : Int32) (B : Prop) : Prop := (v = 1 ∧ ¬ B) ∨ (v = 0 ∧ B)
theorem pr_vb1 {B : Prop} (h : ¬ B) : pr_vb 1 B := Or.inl ⟨rfl, h⟩
theorem pr_vb0 {B : Prop} (h : B) : pr_vb 0 B := Or.inr ⟨rfl, h⟩
def pr_pb (M : zz_St) (B : Prop) (r : Int32 × zz_St) : Prop := r.2 = M ∧ pr_vb r.1 B
theorem pr_pb1 {M : zz_St} {B : Prop} (h : ¬ B) : pr_pb M B (1, M) := ⟨rfl, pr_vb1 h⟩
theorem pr_pb0 {M : zz_St} {B : Prop} (h : B) : pr_pb M B (0, M) := ⟨rfl, pr_vb0 h⟩
def pr_B1 (W H D : Nat) (bar hol : Nat → Int32) (n c x b : Nat) : Prop := ∃ y d, pz_nb W H D c b = some y ∧ hol y = nI n ∧ pz_nb W H D x b = some d ∧ (bar d ≠ 0 ∨ (hol d ≠ -1 ∧ hol d ≠ nI n))
def pr_B2 (W H D : Nat) (bar hol : Nat → Int32) (n c a : Nat) : Prop := ∃ x, pz_nb W H D c a = some x ∧ hol x = nI n ∧ (pr_B1 W H D bar hol n c x 1 ∨ pr_B1 W H D bar hol n c x 4)
def pr_B3 (W H D : Nat) (bar hol : Nat → Int32) (n c : Nat) : Prop := pr_B2 W H D bar hol n c 2 ∨ pr_B2 W H D bar hol n c 3
theorem pr_c_freeBend {W H D N n c x b : Nat} {S : zz_St} (hs : pz_siz W H D) (hg : pz_cgeo W H D S) (hc : c < (W * H * D)) (hx : x < (W * H * D)) (hb : b < 6) :
    pz_T (zf_X6_isFreeBend N (W * H * D) S (nI c) (nI x) (nI b) (nI n)) (fun v => pr_vb v (pr_B1 W H D (zz_ga S 8) (zz_ga S 10) n c x b)) := by
  have hz := hs.2.2.2.2.1
  unfold zf_X6_isFreeBend
  simp only [pz_T_ite, pz_T_gd, pz_T_jn1, pz_T_jn2, pz_T_some, pz_T_let, pz_T_b1, pz_T_b2]
  rw [pz_T_eq (pz_c_neighbour hs hg hc hb), pz_T_eq (pz_c_neighbour hs hg hx hb)]
  cases hy : pz_nb W H D c b with
  | none =>
    refine ⟨fun _ => pr_vb1 ?_, fun h => absurd rfl h⟩
    rintro ⟨y, d, h1, -⟩
    rw [hy] at h1; cases h1
  | some y =>
    have hyz := pz_nb_lt hs.1 hs.2.1 hc hy
    rw [pz_o_s, pz_nm1 (by omega)]
    refine ⟨fun h => h.elim, fun _ => ?_⟩
    cases hd : pz_nb W H D x b with
    | none =>
      refine ⟨fun _ => pr_vb1 ?_, fun h => absurd rfl h⟩
      rintro ⟨y', d, -, -, h1, -⟩
      rw [hd] at h1; cases h1
    | some d =>
      have hdz := pz_nb_lt hs.1 hs.2.1 hx hd
      have hot : zf_X1_heldByOther N (W * H * D) S (nI d) (nI n) = some (pz_b (decide (zz_ga S 10 d ≠ -1 ∧ zz_ga S 10 d ≠ nI n))) := pz_c_other' hz hdz (by rw [decide_eq_true_iff])
      rw [pz_o_s, pz_nm1 (by omega)]
      refine ⟨fun h => h.elim, fun _ => ?_⟩
      simp only [pz_T_eq hot]
      simp (disch := omega) only [pz_in, nI_clampI, pz_b_0, decide_eq_false_iff_not, pz_bl0, pz_bl1, true_and]
      refine ⟨hyz, fun q1 => ⟨hdz, fun q2 => ⟨fun q3 => pr_vb1 ?_, fun q3 => pr_vb0 ⟨y, d, hy, q1, hd, Or.inr (Classical.not_not.mp q3)⟩⟩, fun q2 => pr_vb0 ⟨y, d, hy, q1, hd, Or.inl q2⟩⟩, fun q1 => pr_vb1 ?_⟩
      · rintro ⟨y', d', h1, h2, h3, h4⟩
        rw [hd] at h3
        cases h3
        rcases h4 with h4 | h4
        · exact h4 q2
        · exact q3 h4
      · rintro ⟨y', d', h1, h2, -⟩
        rw [hy] at h1
        cases h1
        exact q1 h2
theorem pr_c_bends {W H D N n c : Nat} {S : zz_St} (hN : 2000 ≤ N) (hs : pz_siz W H D) (hg : pz_cgeo W H D S) (hc : c < (W * H * D)) :
    pz_T (zf_X6_hasFreeBends N (W * H * D) S (nI c) (nI n)) (fun v => pr_vb v (pr_B3 W H D (zz_ga S 8) (zz_ga S 10) n c)) := by
  have hz := hs.2.2.2.2.1
  unfold zf_X6_hasFreeBends
  rw [pz_T_let]
  refine pz_for1 (e := 4) (fun m => 2 ≤ m ∧ ∀ a, 2 ≤ a → a < m → ¬ pr_B2 W H D (zz_ga S 8) (zz_ga S 10) n c a) ?_ N 2 (by omega) ⟨by omega, fun a h1 h2 => by omega⟩ (by omega)
  rintro rc m hm ⟨hm2, hI⟩ hrc
  simp only [pz_T_ite, pz_T_gd, pz_T_jn1, pz_T_jn2, pz_T_some, pz_T_let, pz_T_b1, pz_T_b2]
  rw [pz_c3b (by omega)]
  refine ⟨fun hge => pr_vb1 ?_, fun hlt => ?_⟩
  · rintro (h | h)
    · exact hI 2 (by omega) (by omega) h
    · exact hI 3 (by omega) (by omega) h
  · have hB3 : pr_B2 W H D (zz_ga S 8) (zz_ga S 10) n c m → pr_B3 W H D (zz_ga S 8) (zz_ga S 10) n c := by
      intro h
      rcases (show m = 2 ∨ m = 3 by omega) with rfl | rfl
      · exact Or.inl h
      · exact Or.inr h
    have hcont : ¬ pr_B2 W H D (zz_ga S 8) (zz_ga S 10) n c m → pz_T (rc (nI m + 1)) (fun v => pr_vb v (pr_B3 W H D (zz_ga S 8) (zz_ga S 10) n c)) := by
      intro h
      rw [nI_1]
      refine hrc (by omega) ⟨by omega, fun a h1 h2 => ?_⟩
      by_cases e1 : a = m
      · subst e1; exact h
      · exact hI a h1 (by omega)
    rw [pz_T_eq (pz_c_neighbour hs hg hc (by omega))]
    cases hx : pz_nb W H D c m with
    | none =>
      refine ⟨fun _ => hcont ?_, fun h => absurd rfl h⟩
      rintro ⟨x, h1, -⟩
      rw [hx] at h1; cases h1
    | some x =>
      have hxz := pz_nb_lt hs.1 hs.2.1 hc hx
      rw [pz_o_s, pz_nm1 (by omega)]
      refine ⟨fun h => h.elim, fun _ => ?_⟩
      simp (disch := omega) only [pz_in, nI_clampI]
      refine ⟨hxz, fun q1 => ?_, fun q1 => hcont ?_⟩
      · have f1 : pz_T (zf_X6_isFreeBend N (W * H * D) S (nI c) (nI x) 1 (nI n)) (fun v => pr_vb v (pr_B1 W H D (zz_ga S 8) (zz_ga S 10) n c x 1)) := pr_c_freeBend (b := 1) hs hg hc hxz (by omega)
        have f4 : pz_T (zf_X6_isFreeBend N (W * H * D) S (nI c) (nI x) 4 (nI n)) (fun v => pr_vb v (pr_B1 W H D (zz_ga S 8) (zz_ga S 10) n c x 4)) := pr_c_freeBend (b := 4) hs hg hc hxz (by omega)
        refine pz_T_mono f1 ?_
        rintro v1 (⟨rfl, k1⟩ | ⟨rfl, k1⟩)
        · refine ⟨fun h => absurd h (by decide), fun _ => pz_T_mono f4 ?_⟩
          rintro v4 (⟨rfl, k4⟩ | ⟨rfl, k4⟩)
          · refine ⟨fun h => absurd h (by decide), fun _ => hcont ?_⟩
            rintro ⟨x', h1, h2, h3⟩
            rw [hx] at h1
            cases h1
            rcases h3 with h3 | h3
            · exact k1 h3
            · exact k4 h3
          · exact ⟨fun _ => pr_vb0 (hB3 ⟨x, hx, q1, Or.inr k4⟩), fun h => absurd rfl h⟩
        · exact ⟨fun _ => pr_vb0 (hB3 ⟨x, hx, q1, Or.inl k1⟩), fun h => absurd rfl h⟩
      · rintro ⟨x', h1, h2, -⟩
        rw [hx] at h1
        cases h1
        exact q1 h2
/-- the reference's neighbours by differences -/
def pr_dv (a : Nat) : Int32 := if a = 1 ∨ a = 2 then -1 else 1
theorem pr_cx {W H D l i j a : Nat} (hs : pz_siz W H D) (hl : l < D) (hi : i < W) (hj : j < H) (ha : a = 2 ∨ a = 3) : pz_cell W H D (nI l) (nI i + pr_dv a) (nI j) = pz_nq W H D l i j a := by
  have hs' := hs
  obtain ⟨w0, h0, d0, hA, hz, hw, hh, hd⟩ := hs
  rcases ha with rfl | rfl
  · simp only [pr_dv, pz_nq]
    simp
    by_cases hx : 1 ≤ i
    · rw [pz_addm1 hx, pz_cell_n hs' (by omega) (by omega) (by omega), if_pos ⟨hl, by omega, hj⟩, if_pos hx]
    · have : i = 0 := by omega
      subst this
      rw [show nI 0 + (-1 : Int32) = -1 by decide, pz_cell_b]
      simp
  · simp only [pr_dv, pz_nq]
    simp
    rw [nI_1, pz_cell_n hs' (by omega) (by omega) (by omega)]
    by_cases hx : i + 1 < W
    · rw [if_pos ⟨hl, hx, hj⟩, if_pos hx]
    · rw [if_neg (by omega), if_neg hx]
theorem pr_cy {W H D l i j b : Nat} (hs : pz_siz W H D) (hl : l < D) (hi : i < W) (hj : j < H) (hb : b = 1 ∨ b = 4) : pz_cell W H D (nI l) (nI i) (nI j + pr_dv b) = pz_nq W H D l i j b := by
  have hs' := hs
  obtain ⟨w0, h0, d0, hA, hz, hw, hh, hd⟩ := hs
  rcases hb with rfl | rfl
  · simp only [pr_dv, pz_nq]
    simp
    by_cases hx : 1 ≤ j
    · rw [pz_addm1 hx, pz_cell_n hs' (by omega) (by omega) (by omega), if_pos ⟨hl, hi, by omega⟩, if_pos hx]
    · have : j = 0 := by omega
      subst this
      rw [show nI 0 + (-1 : Int32) = -1 by decide, pz_cell_c]
      simp
  · simp only [pr_dv, pz_nq]
    simp
    rw [nI_1, pz_cell_n hs' (by omega) (by omega) (by omega)]
    by_cases hx : j + 1 < H
    · rw [if_pos ⟨hl, hi, hx⟩, if_pos hx]
    · rw [if_neg (by omega), if_neg hx]
theorem pr_cxy {W H D l i j a b x y : Nat} (hs : pz_siz W H D) (hl : l < D) (hi : i < W) (hj : j < H) (ha : a = 2 ∨ a = 3) (hb : b = 1 ∨ b = 4) (hx : pz_nq W H D l i j a = some x) (hy : pz_nq W H D l i j b = some y) :
    ∃ d, pz_cell W H D (nI l) (nI i + pr_dv a) (nI j + pr_dv b) = some d ∧ pz_nb W H D x b = some d := by
  have hs' := hs
  obtain ⟨w0, h0, d0, hA, hz, hw, hh, hd⟩ := hs
  obtain ⟨i', hi', hii, rfl⟩ : ∃ i', i' < W ∧ nI i + pr_dv a = nI i' ∧ x = pz_q W H l i' j := by
    rcases ha with rfl | rfl
    · simp [pz_nq] at hx
      refine ⟨i - 1, by omega, ?_, hx.2.symm⟩
      simp only [pr_dv]
      simp
      exact pz_addm1 hx.1
    · simp [pz_nq] at hx
      refine ⟨i + 1, by omega, ?_, hx.2.symm⟩
      simp only [pr_dv]
      simp
      exact nI_1 i
  rw [hii, pr_cy hs' hl hi' hj hb, pz_nb_q hi' hj]
  rcases hb with rfl | rfl
  · simp [pz_nq] at hy
    exact ⟨_, by simp [pz_nq, hy.1]; rfl, by simp [pz_nq, hy.1]⟩
  · simp [pz_nq] at hy
    exact ⟨_, by simp [pz_nq, hy.1]; rfl, by simp [pz_nq, hy.1]⟩
theorem pr_m_holds {M : zz_St} {N n : Nat} {hol : Nat → Int32} {z : Nat} (hz : z ≤ 1024) (hh : ∀ c, c < z → zz_ga M 3 c = hol c) (x : Option Nat) (hx : ∀ c, x = some c → c < z) :
    pz_T (zf_X7_holds N M (nI n) (pz_o x)) (fun v => pr_vb v (¬ ∃ c, x = some c ∧ hol c = nI n)) := by
  unfold zf_X7_holds
  simp only [pz_T_ite, pz_T_gd, pz_T_jn1, pz_T_jn2, pz_T_some, pz_T_let, pz_T_b1, pz_T_b2]
  cases x with
  | none =>
    refine ⟨fun _ => ⟨by decide, pr_vb0 ?_⟩, fun h => absurd rfl h⟩
    rintro ⟨c, h, -⟩
    cases h
  | some c =>
    have hc := hx c rfl
    rw [pz_o_s, pz_nm1 (by omega)]
    simp (disch := omega) only [pz_in, nI_clampI, hh c hc]
    refine ⟨fun h => h.elim, fun _ => ⟨by omega, fun h => ⟨by decide, pr_vb1 (fun hc' => hc' ⟨c, rfl, h⟩)⟩, fun h => ⟨by decide, pr_vb0 ?_⟩⟩⟩
    rintro ⟨c', h1, h2⟩
    cases h1
    exact h h2
theorem pr_o_band {W H D nn q : Nat} {pc : Nat → Nat} {pn : Nat → Nat → Nat} {N : Nat} (hN : 2000 ≤ N) {S M : zz_St} (hR : pr_R W H D nn q pc pn 0 (fun _ => False) S M) (p : Int32) : pr_mo zz_cvZ zz_cvZ zz_h1 (pr_I W H D q) (zf_X6_band N (W * H * D) S p) (zf_X7_band N M p) := by
  have hA := hR.2.1
  have hs := hR.1
  have hnn := hA.2.2.1
  have hz := hs.2.2.2.2.1
  have hw := hs.2.2.2.2.2.1
  apply pr_mo_of
  unfold zf_X6_band
  rcases pr_net (N := N) (z := (W * H * D)) hnn hA.2.2.2.1 hA.2.2.2.2.1 p with ⟨n, hn, rfl, h1, h2⟩ | ⟨h1, h2⟩
  · rw [pz_T_bxl h1]
    have hn12 : n < 12 := by omega
    have hin : zz_in (nI n) 12 = true := (pz_in (by omega)).mpr hn12
    obtain ⟨-, ⟨d2, d3⟩, -⟩ := hR.2.2.2.2.1 n hn12
    by_cases hl : zz_ga S 22 n = 0
    · simp only [pz_T_ite, pz_T_some]
      refine ⟨fun _ => ?_, fun h => absurd hl h⟩
      unfold zf_X7_band
      simp only [pz_T_b1, pz_T_jn1, pz_T_ite, pz_T_let, pz_T_some, pz_T_gd, pz_T_eq h2]
      simp only [hin, pz_ga_si, nI_clampI (show n < 2147483648 by omega), d2, hl, pz_gi_si, pr_10, not_false_iff, not_true, false_imp_iff, true_imp_iff, true_and, and_true]
      exact pr_ok pz_gi_si rfl (pr_I_th hR (Nat.le_refl _))
    -- the reference
    have hmg : pz_mgeo W H D (zz_si M 0 0) := by
      unfold pz_mgeo
      simp (disch := omega) only [pz_gi_si, pz_gi_si_n, pz_gi_sl, pz_gi_sa, pz_gi_sA, pz_gi_sp, pz_gl_si, pz_gl_sl, pz_gl_sl_n, pz_gl_sa, pz_gl_sA, pz_gl_sp, pz_ga_si, pz_ga_sl, pz_ga_sa, pz_ga_sa_n, pz_ga_sA, pz_ga_sp, pz_gA_si, pz_gA_sl, pz_gA_sa, pz_gA_sA, pz_gA_sA_n, pz_gA_sp, pz_gp_si, pz_gp_sl, pz_gp_sa, pz_gp_sA, pz_gp_sp, pz_gp_sp_n]
      exact hA.2.1
    have hall : zz_gi (zz_si M 0 0) 1 * zz_gi (zz_si M 0 0) 2 * zz_gi (zz_si M 0 0) 3 = nI (W * H * D) := by rw [hmg.1, hmg.2.1, hmg.2.2, pk_mul, pk_mul]
    have hho : ∀ c, c < (W * H * D) → zz_ga (zz_si M 0 0) 3 c = zz_ga S 10 c := fun c hc => (hR.2.2.2.2.2.2.1 c hc).1 (fun h => h)
    have hba : ∀ c, c < (W * H * D) → zz_ga (zz_si M 0 0) 5 c = zz_ga S 8 c := fun c hc => (hR.2.2.1 c hc).1
    have key : pz_T (zf_X7_band N M (nI n)) (pr_pb (zz_si M 0 0) (∃ c, c < (W * H * D) ∧ zz_ga S 10 c = nI n ∧ pr_B3 W H D (zz_ga S 8) (zz_ga S 10) n c)) := by
      unfold zf_X7_band
      simp only [pz_T_b1, pz_T_jn1, pz_T_ite, pz_T_let, pz_T_some, pz_T_gd, pz_T_eq h2]
      have hl10 : ¬ zz_ga (zz_si M 0 0) 10 n = 0 := by rw [pz_ga_si, d2]; exact hl
      rw [nI_clampI (show n < 2147483648 by omega)]
      simp only [hin, pz_gi_si, pr_10, not_false_iff, not_true, false_imp_iff, true_imp_iff, true_and, and_true]
      refine ⟨fun h => absurd h hl10, fun _ => ?_⟩
      refine pz_for1 (e := (W * H * D)) (fun m => ∀ c, c < m → zz_ga S 10 c = nI n → ¬ pr_B3 W H D (zz_ga S 8) (zz_ga S 10) n c) ?_ N 0 (by omega) (fun c hc => by omega) (by omega)
      intro rc m hm hI hrc
      simp only [pz_T_ite, pz_T_some, pz_T_gd, pz_T_jn1, pz_T_let]
      rw [hall, pz_leI (by omega) (by omega)]
      refine ⟨fun hge => pr_pb1 (fun ⟨c, hc, c1, c2⟩ => hI c (by omega) c1 c2), fun hlt => ?_⟩
      have hmz : m < (W * H * D) := by omega
      have hcont : (zz_ga S 10 m = nI n → ¬ pr_B3 W H D (zz_ga S 8) (zz_ga S 10) n m) → pz_T (rc (nI m + 1)) (pr_pb (zz_si M 0 0) (∃ c, c < (W * H * D) ∧ zz_ga S 10 c = nI n ∧ pr_B3 W H D (zz_ga S 8) (zz_ga S 10) n c)) := by
        intro h
        rw [nI_1]
        refine hrc (by omega) (fun c hc => ?_)
        by_cases e1 : c = m
        · subst e1; exact h
        · exact hI c (by omega)
      rw [nI_clampI (show m < 2147483648 by omega), hho m hmz]
      refine ⟨(pz_in (by omega)).mpr (by omega), fun q1 => ?_, fun q1 => hcont (fun h => absurd h q1)⟩
      rw [pz_T_b1, pz_T_eq (pz_m_layerOf hs hmg (by omega))]
      simp only [pz_T_let, pz_T_gd, pz_T_b1]
      rw [pz_T_eq (pz_m_rowOf hs hmg (by omega)), hmg.1, pz_qn hs.1 (by omega), pk_rem (by omega) hs.1 (by omega)]
      refine ⟨rfl, ?_⟩
      obtain ⟨hi, hj, hll, he⟩ := pz_q_of hs.1 hs.2.1 hmz
      have hnb : ∀ a, pz_nb W H D m a = pz_nq W H D (m / (W * H)) (m % W) (m / W % H) a := fun a => rfl
      generalize m / (W * H) = l at *
      generalize m % W = i at *
      generalize m / W % H = j at *
      -- along i
      refine pz_fixm1 (fun mm v => (mm = 2 ∧ v = pr_dv 2) ∨ (mm = 1 ∧ v = pr_dv 3 ∧ ¬ pr_B2 W H D (zz_ga S 8) (zz_ga S 10) n m 2) ∨ (mm = 0 ∧ v = 3 ∧ ¬ pr_B2 W H D (zz_ga S 8) (zz_ga S 10) n m 2 ∧ ¬ pr_B2 W H D (zz_ga S 8) (zz_ga S 10) n m 3)) ?_ N 2 _ (Or.inl ⟨rfl, rfl⟩) (by omega)
      intro rc2 mm v hv hrc2
      -- one side
      have side : ∀ a, (a = 2 ∨ a = 3) → (¬ pr_B2 W H D (zz_ga S 8) (zz_ga S 10) n m a → pz_T (rc2 (pr_dv a + 2)) (pr_pb (zz_si M 0 0) (∃ c, c < (W * H * D) ∧ zz_ga S 10 c = nI n ∧ pr_B3 W H D (zz_ga S 8) (zz_ga S 10) n c))) → v = pr_dv a → pz_T (zz_fix1 (fun rc28 (v27 : Int32) => if ((2 : Int32)) ≤ v27 then (zz_let (v + (2 : Int32)) (fun x30 => rc2 x30)) else (zz_b1 (zf_X7_cell N (zz_si M 0 0) (nI l) (nI i + v) (nI j)) (fun x31 => zz_b1 (zf_X7_holds N (zz_si M 0 0) (nI n) x31) (fun x32 => zz_jn1 (fun (u33 : Unit) => zz_let (v27 + (2 : Int32)) (fun x36 => rc28 x36)) (fun j34 => if x32 = 0 then (j34 ()) else (zz_b1 (zf_X7_cell N (zz_si M 0 0) (nI l) (nI i) (nI j + v27)) (fun x37 => zz_b1 (zf_X7_holds N (zz_si M 0 0) (nI n) x37) (fun x38 => if x38 = 0 then (j34 ()) else (zz_b1 (zf_X7_cell N (zz_si M 0 0) (nI l) (nI i + v) (nI j + v27)) (fun x39 => zz_let x39 (fun x40 => zz_gd (zz_in x40 1024) (zz_jn1 (fun (u41 : Unit) => some ((0 : Int32), zz_si M 0 0)) (fun j42 => if (zz_ga (zz_si M 0 0) 5 x40.toNatClampNeg) = 0 then (zz_gd (zz_in x40 1024) (if (zz_ga (zz_si M 0 0) 3 x40.toNatClampNeg) = ((-1 : Int32)) then (j34 ()) else (zz_gd (zz_in x40 1024) (if (zz_ga (zz_si M 0 0) 3 x40.toNatClampNeg) = nI n then (j34 ()) else (j42 ()))))) else (j42 ())))))))))))))) N (-1)) (pr_pb (zz_si M 0 0) (∃ c, c < (W * H * D) ∧ zz_ga S 10 c = nI n ∧ pr_B3 W H D (zz_ga S 8) (zz_ga S 10) n c)) := by
        rintro a ha hgo rfl
        have hB3 : pr_B2 W H D (zz_ga S 8) (zz_ga S 10) n m a → pr_B3 W H D (zz_ga S 8) (zz_ga S 10) n m := by
          intro h
          rcases ha with rfl | rfl
          · exact Or.inl h
          · exact Or.inr h
        have hbad : pr_B2 W H D (zz_ga S 8) (zz_ga S 10) n m a → ∃ c, c < (W * H * D) ∧ zz_ga S 10 c = nI n ∧ pr_B3 W H D (zz_ga S 8) (zz_ga S 10) n c := fun h => ⟨m, hmz, q1, hB3 h⟩
        refine pz_fixm1 (fun mm w => (mm = 2 ∧ w = pr_dv 1) ∨ (mm = 1 ∧ w = pr_dv 4 ∧ ¬ ∃ x, pz_nb W H D m a = some x ∧ zz_ga S 10 x = nI n ∧ pr_B1 W H D (zz_ga S 8) (zz_ga S 10) n m x 1) ∨ (mm = 0 ∧ w = 3 ∧ ¬ pr_B2 W H D (zz_ga S 8) (zz_ga S 10) n m a)) ?_ N 2 _ (Or.inl ⟨rfl, rfl⟩) (by omega)
        intro rc3 m3 w hw3 hrc3
        have corner : ∀ b, (b = 1 ∨ b = 4) → w = pr_dv b → ((¬ ∃ x, pz_nb W H D m a = some x ∧ zz_ga S 10 x = nI n ∧ pr_B1 W H D (zz_ga S 8) (zz_ga S 10) n m x b) → pz_T (rc3 (pr_dv b + 2)) (pr_pb (zz_si M 0 0) (∃ c, c < (W * H * D) ∧ zz_ga S 10 c = nI n ∧ pr_B3 W H D (zz_ga S 8) (zz_ga S 10) n c))) → pz_T (zz_b1 (zf_X7_cell N (zz_si M 0 0) (nI l) (nI i + pr_dv a) (nI j)) (fun x31 => zz_b1 (zf_X7_holds N (zz_si M 0 0) (nI n) x31) (fun x32 => zz_jn1 (fun (u33 : Unit) => zz_let (w + (2 : Int32)) (fun x36 => rc3 x36)) (fun j34 => if x32 = 0 then (j34 ()) else (zz_b1 (zf_X7_cell N (zz_si M 0 0) (nI l) (nI i) (nI j + w)) (fun x37 => zz_b1 (zf_X7_holds N (zz_si M 0 0) (nI n) x37) (fun x38 => if x38 = 0 then (j34 ()) else (zz_b1 (zf_X7_cell N (zz_si M 0 0) (nI l) (nI i + pr_dv a) (nI j + w)) (fun x39 => zz_let x39 (fun x40 => zz_gd (zz_in x40 1024) (zz_jn1 (fun (u41 : Unit) => some ((0 : Int32), zz_si M 0 0)) (fun j42 => if (zz_ga (zz_si M 0 0) 5 x40.toNatClampNeg) = 0 then (zz_gd (zz_in x40 1024) (if (zz_ga (zz_si M 0 0) 3 x40.toNatClampNeg) = ((-1 : Int32)) then (j34 ()) else (zz_gd (zz_in x40 1024) (if (zz_ga (zz_si M 0 0) 3 x40.toNatClampNeg) = nI n then (j34 ()) else (j42 ()))))) else (j42 ())))))))))))) ) (pr_pb (zz_si M 0 0) (∃ c, c < (W * H * D) ∧ zz_ga S 10 c = nI n ∧ pr_B3 W H D (zz_ga S 8) (zz_ga S 10) n c)) := by
          rintro b hb rfl hcon
          simp only [pz_T_ite, pz_T_gd, pz_T_jn1, pz_T_jn2, pz_T_some, pz_T_let, pz_T_b1, pz_T_b2]
          simp only [pz_T_eq (pz_m_cell hmg _ _ _)]
          rw [pr_cx hs hll hi hj ha, ← hnb a]
          refine pz_T_mono (pr_m_holds hz hho _ (fun c h => pz_nb_lt hs.1 hs.2.1 hmz h)) ?_
          rintro v1 (⟨rfl, hyes⟩ | ⟨rfl, hno⟩)
          · obtain ⟨x, hx, hxh⟩ := Classical.not_not.mp hyes
            refine ⟨fun h => absurd h (by decide), fun _ => ?_⟩
            rw [pr_cy hs hll hi hj hb, ← hnb b]
            refine pz_T_mono (pr_m_holds hz hho _ (fun c h => pz_nb_lt hs.1 hs.2.1 hmz h)) ?_
            rintro v2 (⟨rfl, hyes2⟩ | ⟨rfl, hno⟩)
            · obtain ⟨y, hy, hyh⟩ := Classical.not_not.mp hyes2
              refine ⟨fun h => absurd h (by decide), fun _ => ?_⟩
              obtain ⟨d, hd1, hd2⟩ := pr_cxy hs hll hi hj ha hb (by rw [← hnb a]; exact hx) (by rw [← hnb b]; exact hy)
              have hxz := pz_nb_lt hs.1 hs.2.1 hmz hx
              have hdz := pz_nb_lt hs.1 hs.2.1 hxz hd2
              rw [hd1, pz_o_s]
              simp (disch := omega) only [pz_in, nI_clampI, hho d hdz, hba d hdz]
              have hb2 : pr_B1 W H D (zz_ga S 8) (zz_ga S 10) n m x b → pr_B2 W H D (zz_ga S 8) (zz_ga S 10) n m a := by
                intro h
                refine ⟨x, hx, hxh, ?_⟩
                rcases hb with rfl | rfl
                · exact Or.inl h
                · exact Or.inr h
              refine ⟨by omega, fun b1 => ⟨by omega, fun b2 => hcon ?_, fun b2 => ⟨by omega, fun b3 => hcon ?_, fun b3 => pr_pb0 (hbad (hb2 ⟨y, d, hy, hyh, hd2, Or.inr ⟨b2, b3⟩⟩))⟩⟩, fun b1 => pr_pb0 (hbad (hb2 ⟨y, d, hy, hyh, hd2, Or.inl b1⟩))⟩
              all_goals
                rintro ⟨x', h3, h4, y', d', h5, h6, h7, h8⟩
                rw [hx] at h3
                cases h3
                rw [hd2] at h7
                cases h7
                rcases h8 with h8 | h8
                · exact h8 b1
                · first | exact h8.1 b2 | exact h8.2 b3
            · refine ⟨fun _ => hcon ?_, fun h => absurd rfl h⟩
              rintro ⟨x', h3, h4, y', d', h5, h6, -⟩
              exact hno ⟨y', h5, h6⟩
          · refine ⟨fun _ => hcon ?_, fun h => absurd rfl h⟩
            rintro ⟨x', h3, h4, -⟩
            exact hno ⟨x', h3, h4⟩
        rw [pz_T_ite]
        rcases hw3 with ⟨rfl, rfl⟩ | ⟨rfl, rfl, hn1⟩ | ⟨rfl, rfl, hn1⟩
        · refine ⟨fun h => absurd h (by decide), fun _ => ?_⟩
          refine corner 1 (Or.inl rfl) rfl (fun h => ?_)
          exact hrc3 1 _ (by omega) (Or.inr (Or.inl ⟨rfl, by decide, h⟩))
        · refine ⟨fun h => absurd h (by decide), fun _ => ?_⟩
          refine corner 4 (Or.inr rfl) rfl (fun h => ?_)
          refine hrc3 0 _ (by omega) (Or.inr (Or.inr ⟨rfl, by decide, ?_⟩))
          rintro ⟨x, h3, h4, h5⟩
          rcases h5 with h5 | h5
          · exact hn1 ⟨x, h3, h4, h5⟩
          · exact h ⟨x, h3, h4, h5⟩
        · refine ⟨fun _ => ?_, fun h => absurd (by decide) h⟩
          rw [pz_T_let]
          exact hgo hn1
      rw [pz_T_ite]
      rcases hv with ⟨rfl, hv⟩ | ⟨rfl, hv, hn2⟩ | ⟨rfl, hv, hn2, hn3⟩
      · refine ⟨fun h => absurd h (by rw [hv]; decide), fun _ => ?_⟩
        rw [pz_T_let]
        exact side 2 (Or.inl rfl) (fun h => hrc2 1 _ (by omega) (Or.inr (Or.inl ⟨rfl, by decide, h⟩))) hv
      · refine ⟨fun h => absurd h (by rw [hv]; decide), fun _ => ?_⟩
        rw [pz_T_let]
        exact side 3 (Or.inr rfl) (fun h => hrc2 0 _ (by omega) (Or.inr (Or.inr ⟨rfl, by decide, hn2, h⟩))) hv
      · refine ⟨fun _ => hcont (fun _ h => ?_), fun h => absurd (by rw [hv]; decide) h⟩
        rcases h with h | h
        · exact hn2 h
        · exact hn3 h
    -- the class
    simp only [pz_T_ite, pz_T_let]
    refine ⟨fun h => absurd h hl, fun _ => ?_⟩
    have hfin : ∀ v : Int32, pr_vb v (∃ c, c < (W * H * D) ∧ zz_ga S 10 c = nI n ∧ pr_B3 W H D (zz_ga S 8) (zz_ga S 10) n c) → pz_T (zf_X7_band N M (nI n)) (fun b => pr_rel zz_cvZ zz_cvZ zz_h1 (pr_I W H D q) (Sum.inl (v, S)) b) := by
      intro v hv
      refine pz_T_mono key ?_
      rintro ⟨b, M'⟩ ⟨h5, h6⟩
      dsimp only at h5 h6
      subst h5
      have hvb : v = b := by
        rcases hv with ⟨rfl, hv⟩ | ⟨rfl, hv⟩
        · rcases h6 with ⟨rfl, -⟩ | ⟨rfl, h6⟩
          · rfl
          · exact absurd h6 hv
        · rcases h6 with ⟨rfl, h6⟩ | ⟨rfl, -⟩
          · exact absurd hv h6
          · rfl
      subst hvb
      exact pr_ok pz_gi_si rfl (pr_I_th hR (Nat.le_refl _))
    refine pz_for1 (e := (W * H * D)) (fun m => ∀ c, c < m → zz_ga S 10 c = nI n → ¬ pr_B3 W H D (zz_ga S 8) (zz_ga S 10) n c) ?_ N 0 (by omega) (fun c hc => by omega) (by omega)
    intro rc m hm hI hrc
    simp only [pz_T_ite, pz_T_gd, pz_T_jn1, pz_T_jn2, pz_T_some, pz_T_let, pz_T_b1, pz_T_b2]
    simp (disch := omega) only [hA.1.2.2.2.2, pz_leI, pz_in, nI_clampI, nI_1]
    refine ⟨fun hge => hfin 1 (pr_vb1 (fun ⟨c, hc, c1, c2⟩ => hI c (by omega) c1 c2)), fun hlt => ⟨by omega, fun q1 => ?_, fun q1 => hrc (by omega) (fun c hc h => ?_)⟩⟩
    · refine pz_T_mono (pr_c_bends hN hs hA.1 (show m < (W * H * D) by omega)) ?_
      rintro v (⟨rfl, hv⟩ | ⟨rfl, hv⟩)
      · refine ⟨fun h => absurd h (by decide), fun _ => hrc (by omega) (fun c hc h => ?_)⟩
        by_cases e1 : c = m
        · subst e1; exact hv
        · exact hI c (by omega) h
      · exact ⟨fun _ => hfin 0 (pr_vb0 ⟨m, by omega, q1, hv⟩), fun h => absurd rfl h⟩
    · by_cases e1 : c = m
      · subst e1; exact absurd h q1
      · exact hI c (by omega) h
  · rw [pz_T_bxr h1]
    unfold zf_X7_band
    simp only [pz_T_b1, pz_T_jn1, pz_T_ite, pz_T_let, pz_T_some, pz_T_gd, pz_T_eq h2]
    simp only [pz_gi_si, pr_10, not_false_iff, not_true, false_imp_iff, true_imp_iff, true_and, and_true]
    exact pr_th rfl (by decide) pz_gi_si (pr_I_th hR (Nat.le_refl _))

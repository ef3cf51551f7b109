def pr_bk (W H c : Nat) : Nat := c / W % H / 4 * ((W + 3) / 4) + c % W / 4
theorem pr_bk_lt {W H D c : Nat} (hs : pz_siz W H D) : pr_bk W H c < 16 := by
  obtain ⟨w0, h0, d0, ha, hz, hw, hh, hd⟩ := hs
  have h1 : c % W < W := Nat.mod_lt _ w0
  have h2 : c / W % H < H := Nat.mod_lt _ h0
  have h3 : c / W % H / 4 ≤ 3 := by omega
  have h4 : (W + 3) / 4 ≤ 4 := by omega
  have h5 : c / W % H / 4 * ((W + 3) / 4) ≤ 3 * ((W + 3) / 4) := Nat.mul_le_mul_right _ h3
  have h6 : c % W / 4 + 1 ≤ (W + 3) / 4 := by omega
  unfold pr_bk
  omega
noncomputable def pr_blk (hol : Nat → Int32) (n W H z b : Nat) : Bool := @decide (∃ c, c < z ∧ hol c = nI n ∧ pr_bk W H c = b) (Classical.propDecidable _)
theorem pr_blk_t {hol : Nat → Int32} {n W H z b : Nat} : pr_blk hol n W H z b = true ↔ ∃ c, c < z ∧ hol c = nI n ∧ pr_bk W H c = b := by
  unfold pr_blk
  exact @decide_eq_true_iff _ (Classical.propDecidable _)
theorem pr_blk_f {hol : Nat → Int32} {n W H z b : Nat} : pr_blk hol n W H z b = false ↔ ¬ ∃ c, c < z ∧ hol c = nI n ∧ pr_bk W H c = b := by
  rw [← pr_blk_t]
  simp
theorem pr_m_inBlock {W H D N : Nat} {M : zz_St} (hs : pz_siz W H D) (hm : pz_mgeo W H D M) {c b : Nat} (hc : c < 1024) (hb : b < 1000) : zf_X7_isInBlock N M (nI c) (nI b) = some (pz_b (decide (pr_bk W H c = b))) := by
  have hbk := pr_bk_lt (c := c) hs
  have hw := hs.2.2.2.2.2.1
  apply pz_eq_of
  unfold zf_X7_isInBlock
  simp only [pz_T_ite, pz_T_gd, pz_T_jn1, pz_T_jn2, pz_T_some, pz_T_let, pz_T_b1, pz_T_b2]
  rw [pz_T_eq (pz_m_rowOf hs hm hc), hm.1, pz_qn hs.1 (by omega), pk_rem (by omega) hs.1 (by omega)]
  have h3 : nI W + (3 : Int32) = nI (W + 3) := nI_add W 3
  have hh : c / W % H < H := Nat.mod_lt _ hs.2.1
  have hww : c % W < W := Nat.mod_lt _ hs.1
  have hh16 := hs.2.2.2.2.2.2.1
  rw [h3, pz_d4 (by omega), pz_d4 (by omega), pz_d4 (by omega), pk_mul, nI_add]
  rw [show c / W % H / 4 * ((W + 3) / 4) + c % W / 4 = pr_bk W H c from rfl, pz_eqI (by omega) (by omega)]
  refine ⟨by decide, by decide, rfl, by decide, fun h => ⟨by decide, ?_⟩, fun h => ⟨by decide, ?_⟩⟩
  · rw [decide_eq_true h]; rfl
  · rw [decide_eq_false h]; rfl
theorem pr_o_corridor {W H D nn q : Nat} {pc : Nat → Nat} {pn : Nat → Nat → Nat} {N : Nat} (hN : 2000 ≤ N) {S M : zz_St} (hR : pr_R W H D nn q pc pn 0 (fun _ => False) S M) (p k : Int32) : pr_mo Int32.toInt64 Int32.toInt64 zz_h1 (pr_I W H D q) (zf_X6_corridor N (W * H * D) S p k) (zf_X7_corridor N M p k) := by
  have hA := hR.2.1
  have hs := hR.1
  have hnn := hA.2.2.1
  have hz := hs.2.2.2.2.1
  have hw := hs.2.2.2.2.2.1
  have hh16 := hs.2.2.2.2.2.2.1
  apply pr_mo_of
  unfold zf_X6_corridor
  rcases pr_net (N := N) (z := (W * H * D)) hnn hA.2.2.2.1 hA.2.2.2.2.1 p with ⟨n, hn, rfl, h1, h2⟩ | ⟨h1, h2⟩
  · rw [pz_T_bxl h1]
    have h3 : nI W + (3 : Int32) = nI (W + 3) := nI_add W 3
    have h4 : nI W + (4 : Int32) - (1 : Int32) = nI (W + 3) := by
      rw [show nI W + (4 : Int32) = nI (W + 4) from nI_add W 4, pz_sub1 (by omega)]
      rfl
    have hbk : ∀ c, pr_bk W H c < 16 := fun c => pr_bk_lt hs
    -- the reference
    have key : pz_T (zf_X7_corridor N M (nI n) k) (fun r => r.2 = zz_si M 0 0 ∧ pr_kth (pr_blk (zz_ga S 10) n W H (W * H * D)) 16 k r.1) := by
      have hmg : pz_mgeo W H D (zz_si M 0 0) := by
        unfold pz_mgeo
        simp (disch := omega) only [pz_gi_si, pz_gi_si_n, pz_gi_sl, pz_gi_sa, pz_gi_sA, pz_gi_sp, pz_gl_si, pz_gl_sl, pz_gl_sl_n, pz_gl_sa, pz_gl_sA, pz_gl_sp, pz_ga_si, pz_ga_sl, pz_ga_sa, pz_ga_sa_n, pz_ga_sA, pz_ga_sp, pz_gA_si, pz_gA_sl, pz_gA_sa, pz_gA_sA, pz_gA_sA_n, pz_gA_sp, pz_gp_si, pz_gp_sl, pz_gp_sa, pz_gp_sA, pz_gp_sp, pz_gp_sp_n]
        exact hA.2.1
      have hall : zz_gi (zz_si M 0 0) 1 * zz_gi (zz_si M 0 0) 2 * zz_gi (zz_si M 0 0) 3 = nI (W * H * D) := by rw [hmg.1, hmg.2.1, hmg.2.2, pk_mul, pk_mul]
      unfold zf_X7_corridor
      simp only [pz_T_b1, pz_T_jn1, pz_T_ite, pz_T_let, pz_T_some, pz_T_eq h2]
      simp only [pz_gi_si, pr_10, not_false_iff, not_true, false_imp_iff, true_imp_iff, true_and, and_true]
      refine ⟨fun hk0 => ?_, fun hk0 => ?_⟩
      · have hk : ¬ k < 0 := by
          rw [Int32.le_iff_toInt_le] at hk0
          rw [Int32.lt_iff_toInt_lt]
          omega
        refine pz_for2r (e := 16) (fun m left => pr_left (pr_blk (zz_ga S 10) n W H (W * H * D)) k m left) ?_ N 0 k (by omega) pr_left_0 (by omega)
        intro rc m left hm hl hrc
        simp only [pz_T_ite]
        rw [pz_c16a (by omega)]
        refine ⟨fun hge => ?_, fun hlt => ?_⟩
        · have : m = 16 := by omega
          subst this
          rw [pz_T_some]
          exact ⟨rfl, pr_left_x hl⟩
        · rw [pz_T_let, pz_T_let]
          refine pz_for2r (e := (W * H * D)) (fun c v => (v = 0 ∧ ¬ ∃ x, x < c ∧ zz_ga S 10 x = nI n ∧ pr_bk W H x = m) ∨ (v = 1 ∧ ∃ x, x < c ∧ zz_ga S 10 x = nI n ∧ pr_bk W H x = m)) ?_ N 0 0 (by omega) (Or.inl ⟨rfl, fun ⟨x, hx, _⟩ => by omega⟩) (by omega)
          intro rc2 c v hc hv hrc2
          simp only [pz_T_ite, pz_T_gd, pz_T_jn1, pz_T_jn2, pz_T_some, pz_T_let, pz_T_b1, pz_T_b2]
          rw [hall, pz_leI (by omega) (by omega)]
          refine ⟨fun hge => ?_, fun hlt2 => ?_⟩
          · have : c = (W * H * D) := by omega
            subst this
            rw [nI_1]
            rcases hv with ⟨rfl, hv⟩ | ⟨rfl, hv⟩
            · refine ⟨fun _ => ⟨fun _ => ?_, fun h => absurd rfl h⟩, fun h => absurd rfl h⟩
              rw [show left - (0 : Int32) = left by simp]
              exact hrc (by omega) _ (pr_left_f hl (pr_blk_f.mpr hv))
            · refine ⟨fun h => absurd h (by decide), fun _ => ⟨fun h0 => ⟨trivial, pr_left_e hl hk (by omega) (pr_blk_t.mpr hv) h0⟩, fun h0 => ⟨fun h => absurd h (by decide), fun _ => ?_⟩⟩⟩
              rw [Int32.sub_eq_add_neg]
              exact hrc (by omega) _ (pr_left_t hl hk (pr_blk_t.mpr hv) h0)
          · have hcz : c < (W * H * D) := by omega
            have e3 := (hR.2.2.2.2.2.2.1 c hcz).1 (fun h => h)
            rw [pz_T_eq (pr_m_inBlock hs hmg (by omega) (by omega)), pz_b_0]
            simp (disch := omega) only [pz_in, nI_clampI, pz_ga_si, e3, nI_1, decide_eq_false_iff_not]
            have hcont : ∀ w, ((w = 0 ∧ ¬ ∃ x, x < c + 1 ∧ zz_ga S 10 x = nI n ∧ pr_bk W H x = m) ∨ (w = 1 ∧ ∃ x, x < c + 1 ∧ zz_ga S 10 x = nI n ∧ pr_bk W H x = m)) → pz_T (rc2 w (nI (c + 1))) (fun r => r.2 = zz_si M 0 0 ∧ pr_kth (pr_blk (zz_ga S 10) n W H (W * H * D)) 16 k r.1) := fun w hw => hrc2 hcz w hw
            have hnx : ∀ x, x < c + 1 → x < c ∨ x = c := fun x hx => by omega
            rcases hv with ⟨rfl, hv⟩ | ⟨rfl, hv⟩
            · refine ⟨fun _ => ⟨by omega, fun q1 => ⟨fun q2 => hcont 0 (Or.inl ⟨rfl, ?_⟩), fun q2 => hcont 1 (Or.inr ⟨rfl, c, by omega, q1, Classical.not_not.mp q2⟩)⟩, fun q1 => hcont 0 (Or.inl ⟨rfl, ?_⟩)⟩, fun h => absurd rfl h⟩
              · rintro ⟨x, hx, x1, x2⟩
                rcases hnx x hx with h | h
                · exact hv ⟨x, h, x1, x2⟩
                · subst h; exact q2 x2
              · rintro ⟨x, hx, x1, x2⟩
                rcases hnx x hx with h | h
                · exact hv ⟨x, h, x1, x2⟩
                · subst h; exact q1 x1
            · refine ⟨fun h => absurd h (by decide), fun _ => hcont 1 (Or.inr ⟨rfl, ?_⟩)⟩
              obtain ⟨x, hx, x1⟩ := hv
              exact ⟨x, by omega, x1⟩
      · refine Or.inr ⟨rfl, Or.inl ?_⟩
        rw [Int32.le_iff_toInt_le] at hk0
        rw [Int32.lt_iff_toInt_lt]
        omega
    -- the class
    simp only [pz_T_gd, pz_T_let]
    rw [hA.1.1, h4, pz_d4 (by omega)]
    refine ⟨by decide, ?_⟩
    refine pz_for2r (e := (W * H * D)) (fun m v => ∀ i, i < 32 → (bt v i = true ↔ ∃ c, c < m ∧ zz_ga S 10 c = nI n ∧ pr_bk W H c = i)) ?_ N 0 0 (by omega) (fun i hi => ⟨fun h => (by rw [b_0] at h; cases h), fun ⟨c, hc, _⟩ => by omega⟩) (by omega)
    intro rc m v hm hv hrc
    simp only [pz_T_ite, pz_T_gd, pz_T_jn1, pz_T_jn2, pz_T_some, pz_T_let, pz_T_b1, pz_T_b2]
    rw [hA.1.2.2.2.2, pz_leI (by omega) (by omega)]
    refine ⟨fun hge => ?_, fun hlt => ?_⟩
    · have : m = (W * H * D) := by omega
      subst this
      obtain ⟨w, hw1, hw⟩ := pr_c_memberAt (x := v) (k := k) hN
      rw [pz_T_eq hw1]
      refine pz_T_mono key ?_
      rintro ⟨b, M'⟩ ⟨h5, h6⟩
      dsimp only at h5 h6
      subst h5
      have hb : ∀ i, i < 32 → bt v i = pr_blk (zz_ga S 10) n W H (W * H * D) i := by
        intro i hi
        have h7 := hv i hi
        rw [← pr_blk_t] at h7
        cases a1 : bt v i <;> cases a2 : pr_blk (zz_ga S 10) n W H (W * H * D) i <;> simp [a1, a2] at h7 ⊢
      rw [pr_kth_uq (by omega) (pr_kth_c hw hb) (pr_kth_n h6 (show 16 ≤ 32 by omega) (fun i h8 h9 => pr_blk_f.mpr (fun ⟨c, _, _, h⟩ => by have := hbk c; omega)))]
      exact pr_ok pz_gi_si rfl (pr_I_th hR (Nat.le_refl _))
    · rw [pz_T_eq (pz_c_rowOf hs hA.1 (by omega)), pz_T_eq (pz_c_columnOf hs hA.1 (by omega))]
      have hh : m / W % H < H := Nat.mod_lt _ hs.2.1
      have hww : m % W < W := Nat.mod_lt _ hs.1
      rw [pz_d4 (by omega), pz_d4 (by omega), pk_mul, nI_add, show m / W % H / 4 * ((W + 3) / 4) + m % W / 4 = pr_bk W H m from rfl]
      simp (disch := omega) only [pz_in, nI_clampI, nI_1]
      have hb16 := hbk m
      refine ⟨by omega, fun q1 => ⟨by decide, by decide, hrc (by omega) _ (fun i hi => ?_)⟩, fun q1 => hrc (by omega) _ (fun i hi => ?_)⟩
      · rw [pz_bt_or (by omega) hi]
        simp only [Bool.or_eq_true, decide_eq_true_eq]
        rw [hv i hi]
        constructor
        · rintro (⟨c, hc, h⟩ | h)
          · exact ⟨c, by omega, h⟩
          · exact ⟨m, by omega, q1, h.symm⟩
        · rintro ⟨c, hc, c1, c2⟩
          by_cases e1 : c = m
          · subst e1; exact Or.inr c2.symm
          · exact Or.inl ⟨c, by omega, c1, c2⟩
      · rw [hv i hi]
        constructor
        · rintro ⟨c, hc, h⟩
          exact ⟨c, by omega, h⟩
        · rintro ⟨c, hc, c1, c2⟩
          by_cases e1 : c = m
          · subst e1; exact absurd c1 q1
          · exact ⟨c, by omega, c1, c2⟩
  · rw [pz_T_bxr h1]
    unfold zf_X7_corridor
    simp only [pz_T_b1, pz_T_jn1, pz_T_ite, pz_T_let, pz_T_some, pz_T_eq h2]
    simp only [pz_gi_si, pr_10, not_false_iff, not_true, false_imp_iff, true_imp_iff, true_and, and_true]
    exact pr_th rfl (by decide) pz_gi_si (pr_I_th hR (Nat.le_refl _))

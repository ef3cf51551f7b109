theorem pr_c_held {S M : zz_St} {N z n ts : Nat} {tr : Nat → Nat} {k : Int32} (hz : z ≤ 1024) (hN : 2000 ≤ N) (h6 : zz_gi S 6 = nI z) (hg : pr_G1 z S M n ts tr) :
    pz_T (zf_X1_heldAtTurn N z S (nI n) k) (fun v => (∃ i, i < ts ∧ k = nI i ∧ v = nI (tr i)) ∨ (v = -1 ∧ ∀ i, i < ts → k ≠ nI i)) := by
  obtain ⟨g1, g2, g3, g4⟩ := hg
  unfold zf_X1_heldAtTurn
  rw [pz_T_let]
  refine pz_for1 (e := z) (fun m => ∀ c, c < m → ¬ (zz_ga S 10 c = nI n ∧ zz_ga S 11 c = k)) ?_ N 0 (by omega) (fun c hc => by omega) (by omega)
  intro rc m hm hI hrc
  simp only [pz_T_ite, pz_T_gd, pz_T_jn1, pz_T_jn2, pz_T_some, pz_T_let, pz_T_b1, pz_T_b2]
  simp (disch := omega) only [h6, pz_leI, pz_in, nI_clampI, nI_1]
  refine ⟨fun hge => ?_, fun hlt => ⟨by omega, fun h1 => ⟨by omega, fun h2 => ?_, fun h2 => hrc (by omega) (fun c hc => ?_)⟩, fun h1 => hrc (by omega) (fun c hc => ?_)⟩⟩
  · refine Or.inr ⟨trivial, fun i hi hk => ?_⟩
    obtain ⟨v1, -, v3, v4⟩ := g3 i hi
    exact hI (tr i) (by omega) ⟨v3, by rw [v4, hk]⟩
  · obtain ⟨i, hi, rfl⟩ := g4 m (by omega) h1
    exact Or.inl ⟨i, hi, by rw [← h2]; exact (g3 i hi).2.2.2, rfl⟩
  · by_cases e1 : c = m
    · subst e1; exact fun h => h2 h.2
    · exact hI c (by omega)
  · by_cases e1 : c = m
    · subst e1; exact fun h => h1 h.1
    · exact hI c (by omega)
theorem pr_o_piece {W H D nn q : Nat} {pc : Nat → Nat} {pn : Nat → Nat → Nat} {N : Nat} (hN : 2000 ≤ N) {S M : zz_St} (hR : pr_R W H D nn q pc pn 0 (fun _ => False) S M) (p1 p2 p3 : Int32) : pr_mo Int32.toInt64 Int32.toInt64 zz_h1 (pr_I W H D q) (zf_X6_piece N (W * H * D) S p1 p2 p3) (zf_X7_piece N M p1 p2 p3) := by
  have hA := hR.2.1
  have hs := hR.1
  have hnn := hA.2.2.1
  have hz := hs.2.2.2.2.1
  apply pr_mo_of
  unfold zf_X6_piece
  have hbad : pr_rel (V := Int32) Int32.toInt64 Int32.toInt64 zz_h1 (pr_I W H D q) (Sum.inr (1, S)) ((0 : Int32), zz_si M 0 1) := pr_th rfl (by decide) pz_gi_si (pr_I_th hR (Nat.le_refl _))
  rcases pr_net (N := N) (z := (W * H * D)) hnn hA.2.2.2.1 hA.2.2.2.2.1 p1 with ⟨n, hn, rfl, h1, h2⟩ | ⟨h1, h2⟩
  · rw [pz_T_bxl h1]
    have hn12 : n < 12 := by omega
    have hin : zz_in (nI n) 12 = true := (pz_in (by omega)).mpr hn12
    obtain ⟨-, ⟨d2, d3⟩, -⟩ := hR.2.2.2.2.1 n hn12
    have hMno : ∀ {Q : Int32 × zz_St → Prop}, (zz_ga S 22 n = 0 ∨ p2 < 0 ∨ zz_ga M 11 n ≤ p2 ∨ p3 < 0 ∨ (3 : Int32) ≤ p3) → Q (0, zz_si M 0 1) → pz_T (zf_X7_piece N M (nI n) p2 p3) Q := by
      intro Q hx hQ
      unfold zf_X7_piece
      simp only [pz_T_ite, pz_T_gd, pz_T_jn1, pz_T_jn2, pz_T_some, pz_T_let, pz_T_b1, pz_T_b2]
      simp only [pz_T_eq h2]
      simp only [hin, nI_clampI (show n < 2147483648 by omega), d2, pz_gi_si, pr_10, not_false_iff, not_true, false_imp_iff, true_imp_iff, true_and, and_true]
      refine ⟨fun _ => hQ, fun a1 => ⟨fun _ => hQ, fun a2 => ⟨fun _ => hQ, fun a3 => ⟨fun _ => hQ, fun a4 => ⟨fun _ => hQ, fun a5 => ?_⟩⟩⟩⟩⟩
      exfalso
      rcases hx with h | h | h | h | h
      · exact a1 h
      · exact a2 h
      · exact a3 h
      · exact a4 h
      · exact a5 h
    by_cases hl : zz_ga S 22 n = 0
    · simp only [pz_T_ite, pz_T_gd, pz_T_jn1, pz_T_jn2, pz_T_some, pz_T_let, pz_T_b1, pz_T_b2]
      simp only [hl, not_true, false_imp_iff, true_imp_iff, and_true]
      exact hMno (Or.inl hl) hbad
    · obtain ⟨ts, tr, hg⟩ := (hR.2.2.2.2.2.2.2 n hn12).2 hl
      obtain ⟨v, hv1, hv⟩ := pr_c_held (k := p2) hz hN hA.1.2.2.2.2 hg
      obtain ⟨g1, g2, g3, g4⟩ := hg
      simp only [pz_T_ite, pz_T_gd, pz_T_jn1, pz_T_jn2, pz_T_some, pz_T_let, pz_T_b1, pz_T_b2]
      simp only [hl, not_false_iff, false_imp_iff, true_imp_iff, true_and, pz_T_eq hv1]
      rcases hv with ⟨i, hi, rfl, rfl⟩ | ⟨rfl, hv⟩
      · obtain ⟨t1, t2, t3, t4⟩ := g3 i hi
        rw [pz_nm1 (by omega)]
        refine ⟨fun h => h.elim, fun _ => ⟨fun h3 => hMno (Or.inr (Or.inr (Or.inr (Or.inl h3)))) hbad, fun h3 => ?_⟩⟩
        obtain ⟨w, hw, rfl⟩ := nI_of h3
        rw [pz_c2c (by omega)]
        have hMyes : ∀ {Q : Int32 × zz_St → Prop}, w ≤ 2 → Q (if w = 0 then nI (tr i / (W * H)) else if w = 1 then nI (tr i % W) else nI (tr i / W % H), zz_si M 0 0) → pz_T (zf_X7_piece N M (nI n) (nI i) (nI w)) Q := by
          intro Q hw2 hQ
          have hmg : pz_mgeo W H D (zz_si M 0 0) := by
            unfold pz_mgeo
            simp (disch := omega) only [pz_gi_si, pz_gi_si_n, pz_gi_sl, pz_gi_sa, pz_gi_sA, pz_gi_sp, pz_gl_si, pz_gl_sl, pz_gl_sl_n, pz_gl_sa, pz_gl_sA, pz_gl_sp, pz_ga_si, pz_ga_sl, pz_ga_sa, pz_ga_sa_n, pz_ga_sA, pz_ga_sp, pz_gA_si, pz_gA_sl, pz_gA_sa, pz_gA_sA, pz_gA_sA_n, pz_gA_sp, pz_gp_si, pz_gp_sl, pz_gp_sa, pz_gp_sA, pz_gp_sp, pz_gp_sp_n]
            exact hA.2.1
          have hwide : zz_gi (zz_si M 0 0) 1 = nI W := by rw [pz_gi_si_n (by decide)]; exact hA.2.1.1
          unfold zf_X7_piece
          simp only [pz_T_ite, pz_T_gd, pz_T_jn1, pz_T_jn2, pz_T_some, pz_T_let, pz_T_b1, pz_T_b2]
          simp only [pz_T_eq h2]
          simp (disch := omega) only [hin, nI_clampI, d2, g2, pz_gi_si, pr_10, hl, pz_n0, pz_leI, pz_c3a, pz_1024m, nI_add, pz_in, pz_ga_si, t2, not_false_iff, not_true, false_imp_iff, true_imp_iff, true_and, and_true, pz_c0e, pz_c1e]
          refine ⟨fun h => by omega, fun _ => ⟨fun h => by omega, fun _ => ⟨by omega, ?_⟩⟩⟩
          rw [pz_T_eq (pz_m_layerOf hs hmg (by omega)), pz_T_eq (pz_m_rowOf hs hmg (by omega)), hwide, pz_qn hs.1 (by have := hs.2.2.2.2.2.1; omega), pk_rem (by omega) hs.1 (by have := hs.2.2.2.2.2.1; omega)]
          by_cases w0 : w = 0
          · subst w0; simpa using hQ
          · by_cases w1 : w = 1
            · subst w1; simpa using hQ
            · simpa [w0, w1] using hQ
        refine ⟨fun hw2 => ?_, fun hw2 => hMno (Or.inr (Or.inr (Or.inr (Or.inr (by rw [pz_c3a (by omega)]; omega))))) hbad⟩
        rw [pz_T_eq (pz_c_layerOf hs hA.1 (by omega)), pz_T_eq (pz_c_columnOf hs hA.1 (by omega)), pz_T_eq (pz_c_rowOf hs hA.1 (by omega)), pz_c0e (by omega), pz_c1e (by omega)]
        refine ⟨fun w0 => hMyes hw2 ?_, fun w0 => ⟨fun w1 => hMyes hw2 ?_, fun w1 => hMyes hw2 ?_⟩⟩
        · rw [if_pos w0]; exact pr_ok pz_gi_si rfl (pr_I_th hR (Nat.le_refl _))
        · rw [if_neg w0, if_pos w1]; exact pr_ok pz_gi_si rfl (pr_I_th hR (Nat.le_refl _))
        · rw [if_neg w0, if_neg w1]; exact pr_ok pz_gi_si rfl (pr_I_th hR (Nat.le_refl _))
      · refine ⟨fun _ => ?_, fun h => absurd rfl h⟩
        by_cases hp2 : p2 < 0
        · exact hMno (Or.inr (Or.inl hp2)) hbad
        · obtain ⟨j, hj, rfl⟩ := nI_of hp2
          refine hMno (Or.inr (Or.inr (Or.inl ?_))) hbad
          rw [g2, pz_leI (by omega) hj]
          by_cases h : j < ts
          · exact absurd rfl (hv j h)
          · omega
  · rw [pz_T_bxr h1]
    unfold zf_X7_piece
    simp only [pz_T_ite, pz_T_gd, pz_T_jn1, pz_T_jn2, pz_T_some, pz_T_let, pz_T_b1, pz_T_b2]
    simp only [pz_T_eq h2]
    simp only [pz_gi_si, pr_10, not_false_iff, not_true, false_imp_iff, true_imp_iff, true_and, and_true]
    exact hbad

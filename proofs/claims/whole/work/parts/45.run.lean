theorem pr_run {W H D nn q : Nat} {pc : Nat → Nat} {pn : Nat → Nat → Nat} {N r : Nat} (hq : q + 2000 ≤ 1000000000) (hN : 2000 ≤ N) (hr : r ≤ 20) {S M : zz_St} (hR : pr_R W H D nn q pc pn 0 (fun _ => False) S M) (h0 : zz_gi M 0 = 0) :
    pz_T (zz_fix2 (pr_Rc N (W * H * D) (nI r)) N 0 S) (fun a => pz_T (zz_fix2 (pr_Rm N (nI r)) N 0 M) (fun b => ∃ v S' M', a = Sum.inl (v, S') ∧ b = (v, M') ∧ zz_gi M' 0 = 0 ∧ pr_R W H D nn (q + 1600) pc pn 0 (fun _ => False) S' M')) := by
  refine pz_fix22 (fun m v S v' M => ∃ i, v = nI i ∧ v' = nI i ∧ r - i = m ∧ i ≤ r ∧ pr_R W H D nn (q + 80 * i) pc pn 0 (fun _ => False) S M ∧ zz_gi M 0 = 0) ?_ N N r _ _ _ _ ⟨0, rfl, rfl, by omega, by omega, hR, h0⟩ (by omega) (by omega)
  clear hR h0 S M
  rintro rc rm m _ S _ M ⟨i, rfl, rfl, rfl, hi, hR, h0⟩ hrec
  have hR0 := hR
  obtain ⟨hs, hA, hB, hC, hD, hE, hF, hG⟩ := hR
  have hnn := hA.2.2.1
  obtain ⟨x, hx1, hx⟩ := pr_c_openNets (z := (W * H * D)) (pc := pc) hN hnn hA.2.2.2.1 (fun n hn => ⟨(hD n hn).1.1, (hD n hn).1.2.1⟩)
  have hoc := pr_m_openCount (S := S) (pc := pc) hN hnn hA.2.2.2.2.1 (fun n hn => ⟨(hD n hn).1.1, (hD n hn).1.2.2, (hD n hn).2.1.1⟩)
  have hcn := pz_cnt_le (pr_op pc S) nn
  have hcnt : pz_cnt (bt x) 12 = pz_cnt (pr_op pc S) nn := by
    rw [pr_cnt_tail (m := nn) hnn (fun i h1 h2 => by rw [hx i (by omega), decide_eq_false (by omega)]; rfl)]
    exact pz_cnt_congr (fun i hi => by rw [hx i (by omega), decide_eq_true hi, Bool.true_and])
  have hbc : zf_J6_bitCount_0f7a4 N x = some (nI (pz_cnt (pr_op pc S) nn)) := by
    rw [pr_bitCount (fun i h1 h2 => by rw [hx i h2, decide_eq_false (by omega)]; rfl), hcnt]
  have hx0 : x = 0 ↔ pz_cnt (pr_op pc S) nn = 0 := by
    rw [← hcnt, pr_cnt_0]
    constructor
    · rintro rfl i _; exact b_0 i
    · intro h
      apply b_ext
      intro i hi
      rw [b_0]
      by_cases h12 : i < 12
      · exact h i h12
      · rw [hx i hi, decide_eq_false (by omega)]; rfl
  have hout : ∃ v S' M', (Sum.inl (nI (pz_cnt (pr_op pc S) nn), S) : (Int32 × zz_St) ⊕ (Nat × zz_St)) = Sum.inl (v, S') ∧ (nI (pz_cnt (pr_op pc S) nn), M) = (v, M') ∧ zz_gi M' 0 = 0 ∧ pr_R W H D nn (q + 1600) pc pn 0 (fun _ => False) S' M' := ⟨_, _, _, rfl, rfl, h0, pr_R_q hR0 (by omega)⟩
  have hexit : (r ≤ i ∨ pz_cnt (pr_op pc S) nn = 0) → pz_T (pr_Rc N (W * H * D) (nI r) rc (nI i) S) (fun a => pz_T (pr_Rm N (nI r) rm (nI i) M) (fun b => ∃ v S' M', a = Sum.inl (v, S') ∧ b = (v, M') ∧ zz_gi M' 0 = 0 ∧ pr_R W H D nn (q + 1600) pc pn 0 (fun _ => False) S' M')) := by
    intro hx2
    unfold pr_Rc
    simp only [pz_T_ite, pz_T_gd, pz_T_jn1, pz_T_jn2, pz_T_some, pz_T_let, pz_T_b1, pz_T_b2]
    rw [pz_T_eq hx1]
    rw [pz_leI (by omega) (by omega)]
    have hm : pz_T (pr_Rm N (nI r) rm (nI i) M) (fun b => ∃ v S' M', (Sum.inl (nI (pz_cnt (pr_op pc S) nn), S) : (Int32 × zz_St) ⊕ (Nat × zz_St)) = Sum.inl (v, S') ∧ b = (v, M') ∧ zz_gi M' 0 = 0 ∧ pr_R W H D nn (q + 1600) pc pn 0 (fun _ => False) S' M') := by
      unfold pr_Rm
      simp only [pz_T_ite, pz_T_gd, pz_T_jn1, pz_T_jn2, pz_T_some, pz_T_let, pz_T_b1, pz_T_b2]
      rw [pz_T_eq hoc, pz_T_eq hoc]
      rw [pz_leI (by omega) (by omega), pz_c0c (by omega)]
      refine ⟨fun _ => hout, fun h => ⟨fun _ => hout, fun h' => ?_⟩⟩
      omega
    refine ⟨fun _ => ?_, fun h => ?_⟩
    · rw [pz_T_eq hbc]; exact hm
    · rw [pz_T_eq hx1]
      refine ⟨fun _ => ?_, fun h' => ?_⟩
      · rw [pz_T_eq hbc]; exact hm
      · exact absurd (hx0.mpr (by omega)) h'
  by_cases h1 : r ≤ i
  · exact hexit (Or.inl h1)
  by_cases h2 : pz_cnt (pr_op pc S) nn = 0
  · exact hexit (Or.inr h2)
  obtain ⟨S', hS', M', hM', r1, r2⟩ := pr_turn (by omega) hN hR0
  unfold pr_Rc
  simp only [pz_T_ite, pz_T_gd, pz_T_jn1, pz_T_jn2, pz_T_some, pz_T_let, pz_T_b1, pz_T_b2]
  rw [pz_leI (by omega) (by omega)]
  refine ⟨fun h => absurd h h1, fun _ => ?_⟩
  rw [pz_T_eq hx1]
  refine ⟨fun h => absurd (hx0.mp h) h2, fun _ => ?_⟩
  rw [pz_T_eq hS', nI_1]
  refine pz_T_mono (hrec (r - (i + 1)) _ S' _ M' (by omega) ⟨i + 1, rfl, rfl, rfl, by omega, pr_R_q r1 (by omega), by rw [r2]; exact h0⟩) (fun a ha => ?_)
  unfold pr_Rm
  simp only [pz_T_ite, pz_T_gd, pz_T_jn1, pz_T_jn2, pz_T_some, pz_T_let, pz_T_b1, pz_T_b2]
  rw [pz_leI (by omega) (by omega)]
  refine ⟨fun h => absurd h h1, fun _ => ?_⟩
  rw [pz_T_eq hoc, pz_c0c (by omega)]
  refine ⟨fun h => by omega, fun _ => ?_⟩
  rw [pz_T_eq hM', nI_1]
  exact ha
theorem pr_o_run {W H D nn q : Nat} {pc : Nat → Nat} {pn : Nat → Nat → Nat} {N : Nat} (hq : q + 2000 ≤ 1000000000) (hN : 2000 ≤ N) {S M : zz_St} (hR : pr_R W H D nn q pc pn 0 (fun _ => False) S M) (p1 : Int32) :
    pr_mo Int32.toInt64 Int32.toInt64 zz_h3 (pr_I W H D (q + 1600)) (zf_X6_run N (W * H * D) S p1) (zf_X7_run N M p1) := by
  rw [pr_run_c, pr_run_m]
  simp only [zz_jn1, zz_let]
  have hbad : pr_mo Int32.toInt64 Int32.toInt64 zz_h3 (pr_I W H D (q + 1600)) (some (Sum.inr (2, S))) (some ((0 : Int32), zz_si M 0 1)) :=
    ⟨_, _, rfl, Or.inr ⟨2, S, 1, rfl, rfl, by decide, pz_gi_si, pr_I_th hR (by omega)⟩⟩
  by_cases h1 : p1 < 1
  · rw [if_pos h1, if_pos h1, pz_gi_si, if_neg (by decide)]
    exact hbad
  · rw [if_neg h1, if_neg h1]
    by_cases h2 : p1 ≤ 20
    · have h3 : ¬ (20 : Int32) < p1 := by
        rw [Int32.lt_iff_toInt_lt]
        rw [Int32.le_iff_toInt_le] at h2
        omega
      rw [if_pos h2, if_neg h3, pz_gi_si, if_pos rfl]
      obtain ⟨r, hr, hp⟩ : ∃ r : Nat, r ≤ 20 ∧ p1 = nI r := by
        have h0 : ¬ p1 < 0 := by
          intro h
          rw [Int32.lt_iff_toInt_lt] at h h1
          have a0 : (0 : Int32).toInt = 0 := by decide
          have a1 : (1 : Int32).toInt = 1 := by decide
          omega
        obtain ⟨j, hj, rfl⟩ := nI_of h0
        refine ⟨j, ?_, rfl⟩
        rw [pz_c20c hj] at h2
        exact h2
      subst hp
      obtain ⟨a, ha, b, hb, v, S', M', rfl, rfl, g0, hR'⟩ := pr_run (r := r) hq hN hr (pr_R_th (v := 0) hR) pz_gi_si
      rw [ha, hb]
      exact ⟨v, M', rfl, Or.inl ⟨v, S', rfl, g0, rfl, nn, pc, pn, hR'⟩⟩
    · have h3 : (20 : Int32) < p1 := by
        rw [Int32.lt_iff_toInt_lt]
        rw [Int32.le_iff_toInt_le] at h2
        omega
      rw [if_neg h2, if_pos h3, pz_gi_si, if_neg (by decide)]
      exact hbad

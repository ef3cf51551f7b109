theorem pr_R_net {W H D nn q : Nat} {pc : Nat → Nat} {pn : Nat → Nat → Nat} {S M : zz_St} (hR : pr_R W H D nn q pc pn 0 (fun _ => False) S M) (hn : nn < 12) : pr_R W H D (nn + 1) q pc pn 0 (fun _ => False) (zz_si S 0 (nI (nn + 1))) (zz_si M 4 (nI (nn + 1))) := by
  obtain ⟨hs, hA, hB, hC, hD, hE, hF, hG⟩ := hR
  refine ⟨hs, ?_, hB, hC, ?_, hE, ?_, hG⟩
  · unfold pr_A pz_cgeo pz_mgeo at *
    simp (disch := omega) only [pz_gi_si, pz_gi_si_n, pz_gi_sl, pz_gi_sa, pz_gi_sA, pz_gi_sp, pz_gl_si, pz_gl_sl, pz_gl_sl_n, pz_gl_sa, pz_gl_sA, pz_gl_sp, pz_ga_si, pz_ga_sl, pz_ga_sa, pz_ga_sa_n, pz_ga_sA, pz_ga_sp, pz_gA_si, pz_gA_sl, pz_gA_sa, pz_gA_sA, pz_gA_sA_n, pz_gA_sp, pz_gp_si, pz_gp_sl, pz_gp_sa, pz_gp_sA, pz_gp_sp, pz_gp_sp_n]
    obtain ⟨a1, a2, a3, a4, a5, a6, a7⟩ := hA
    exact ⟨a1, a2, by omega, trivial, trivial, a6, a7⟩
  · intro n h
    obtain ⟨d1, d2, d3, d4, d5, d6⟩ := hD n h
    exact ⟨d1, d2, d3, d4, d5, fun i hi hb => Nat.lt_succ_of_lt (d6 i hi hb)⟩
  · intro c hc
    obtain ⟨f1, f2, f3, f4⟩ := hF c hc
    refine ⟨f1, f2, ?_, f4⟩
    rcases f3 with h | ⟨o, ho, h⟩
    · exact Or.inl h
    · exact Or.inr ⟨o, by omega, h⟩
theorem pr_o_net {W H D nn q : Nat} {pc : Nat → Nat} {pn : Nat → Nat → Nat} {N : Nat} (hN : 2000 ≤ N) {S M : zz_St} (hR : pr_R W H D nn q pc pn 0 (fun _ => False) S M) : ∃ v S' M', zf_X6_net N (W * H * D) S = some (v, S') ∧ zf_X7_net N M = some (v, M') ∧ pr_I W H D q S' M' := by
  have hA := hR.2.1
  have hnn := hA.2.2.1
  by_cases h : nn < 12
  · refine ⟨nI nn, zz_si S 0 (nI (nn + 1)), zz_si (zz_si M 0 0) 4 (nI (nn + 1)), ?_, ?_, nn + 1, pc, pn, pr_R_net (pr_R_th hR) h⟩
    · apply pz_eq_of
      unfold zf_X6_net
      simp only [pz_T_ite, pz_T_gd, pz_T_jn1, pz_T_jn2, pz_T_some, pz_T_let, pz_T_b1, pz_T_b2]
      simp (disch := omega) only [pz_gi_si, pz_gi_si_n, pz_gi_sl, pz_gi_sa, pz_gi_sA, pz_gi_sp, pz_gl_si, pz_gl_sl, pz_gl_sl_n, pz_gl_sa, pz_gl_sA, pz_gl_sp, pz_ga_si, pz_ga_sl, pz_ga_sa, pz_ga_sa_n, pz_ga_sA, pz_ga_sp, pz_gA_si, pz_gA_sl, pz_gA_sa, pz_gA_sA, pz_gA_sA_n, pz_gA_sp, pz_gp_si, pz_gp_sl, pz_gp_sa, pz_gp_sA, pz_gp_sp, pz_gp_sp_n, hA.2.2.2.1, pz_c12d, nI_1]
      exact ⟨fun _ => by rw [pz_sub1 (by omega)]; rfl, fun h' => absurd h h'⟩
    · apply pz_eq_of
      unfold zf_X7_net
      simp only [pz_T_ite, pz_T_gd, pz_T_jn1, pz_T_jn2, pz_T_some, pz_T_let, pz_T_b1, pz_T_b2]
      simp (disch := omega) only [pz_gi_si, pz_gi_si_n, pz_gi_sl, pz_gi_sa, pz_gi_sA, pz_gi_sp, pz_gl_si, pz_gl_sl, pz_gl_sl_n, pz_gl_sa, pz_gl_sA, pz_gl_sp, pz_ga_si, pz_ga_sl, pz_ga_sa, pz_ga_sa_n, pz_ga_sA, pz_ga_sp, pz_gA_si, pz_gA_sl, pz_gA_sa, pz_gA_sA, pz_gA_sA_n, pz_gA_sp, pz_gp_si, pz_gp_sl, pz_gp_sa, pz_gp_sA, pz_gp_sp, pz_gp_sp_n, hA.2.2.2.2.1, pz_c12e, nI_1]
      exact ⟨fun h' => by omega, fun _ => by rw [pz_sub1 (by omega)]; rfl⟩
  · refine ⟨-1, S, zz_si M 0 0, ?_, ?_, pr_I_th hR (Nat.le_refl _)⟩
    · apply pz_eq_of
      unfold zf_X6_net
      simp only [pz_T_ite, pz_T_gd, pz_T_jn1, pz_T_jn2, pz_T_some, pz_T_let, pz_T_b1, pz_T_b2]
      simp (disch := omega) only [pz_gi_si, pz_gi_si_n, pz_gi_sl, pz_gi_sa, pz_gi_sA, pz_gi_sp, pz_gl_si, pz_gl_sl, pz_gl_sl_n, pz_gl_sa, pz_gl_sA, pz_gl_sp, pz_ga_si, pz_ga_sl, pz_ga_sa, pz_ga_sa_n, pz_ga_sA, pz_ga_sp, pz_gA_si, pz_gA_sl, pz_gA_sa, pz_gA_sA, pz_gA_sA_n, pz_gA_sp, pz_gp_si, pz_gp_sl, pz_gp_sa, pz_gp_sA, pz_gp_sp, pz_gp_sp_n, hA.2.2.2.1, pz_c12d, nI_1]
      exact ⟨fun h' => absurd h' h, fun _ => trivial⟩
    · apply pz_eq_of
      unfold zf_X7_net
      simp only [pz_T_ite, pz_T_gd, pz_T_jn1, pz_T_jn2, pz_T_some, pz_T_let, pz_T_b1, pz_T_b2]
      simp (disch := omega) only [pz_gi_si, pz_gi_si_n, pz_gi_sl, pz_gi_sa, pz_gi_sA, pz_gi_sp, pz_gl_si, pz_gl_sl, pz_gl_sl_n, pz_gl_sa, pz_gl_sA, pz_gl_sp, pz_ga_si, pz_ga_sl, pz_ga_sa, pz_ga_sa_n, pz_ga_sA, pz_ga_sp, pz_gA_si, pz_gA_sl, pz_gA_sa, pz_gA_sA, pz_gA_sA_n, pz_gA_sp, pz_gp_si, pz_gp_sl, pz_gp_sa, pz_gp_sA, pz_gp_sp, pz_gp_sp_n, hA.2.2.2.2.1, pz_c12e, nI_1]
      exact ⟨fun h' => trivial, fun h' => absurd (by omega) h'⟩
theorem pr_o_round {W H D nn q : Nat} {pc : Nat → Nat} {pn : Nat → Nat → Nat} {N : Nat} (hN : 2000 ≤ N) {S M : zz_St} (hR : pr_R W H D nn q pc pn 0 (fun _ => False) S M) : ∃ v M', zf_X6_round N (W * H * D) S = some v ∧ zf_X7_round N M = some (v, M') ∧ pr_I W H D q S M' := by
  refine ⟨zz_gi S 1, zz_si M 0 0, rfl, ?_, pr_I_th hR (Nat.le_refl _)⟩
  unfold zf_X7_round
  simp only [zz_let]
  rw [pz_gi_si_n (by decide), hR.2.1.2.2.2.2.2.1]
theorem pr_o_open {W H D nn q : Nat} {pc : Nat → Nat} {pn : Nat → Nat → Nat} {N : Nat} (hN : 2000 ≤ N) {S M : zz_St} (hR : pr_R W H D nn q pc pn 0 (fun _ => False) S M) (p : Int32) : ∃ v M', zf_X6_open N (W * H * D) S p = some v ∧ zf_X7_open N M p = some (v, M') ∧ pr_I W H D q S M' := by
  have hA := hR.2.1
  have hnn := hA.2.2.1
  have hD := hR.2.2.2.2.1
  obtain ⟨x, hx1, hx⟩ := pr_c_openNets (z := (W * H * D)) (pc := pc) hN hnn hA.2.2.2.1 (fun n hn => ⟨(hD n hn).1.1, (hD n hn).1.2.1⟩)
  obtain ⟨v, hv1, hv⟩ := pr_c_memberAt (x := x) (k := p) hN
  have hv2 := pr_kth_c hv (fun i hi => hx i hi)
  refine ⟨v, zz_si M 0 0, ?_, ?_, pr_I_th hR (Nat.le_refl _)⟩
  · unfold zf_X6_open
    rw [hx1]
    simp only [zz_b1]
    rw [hv1]
  · have key : pz_T (zf_X7_open N M p) (fun r => r.2 = zz_si M 0 0 ∧ pr_kth (fun i => decide (i < nn) && pr_op pc S i) nn p r.1) := by
      unfold zf_X7_open
      simp only [pz_T_let]
      refine pz_for2r (e := nn) (fun m left => pr_left (fun i => decide (i < nn) && pr_op pc S i) p m left) ?_ N 0 p (by omega) pr_left_0 (by omega)
      intro rc m left hm hl hrc
      simp only [pz_T_ite, pz_T_gd, pz_T_jn1, pz_T_jn2, pz_T_some, pz_T_let, pz_T_b1, pz_T_b2]
      simp (disch := omega) only [pz_gi_si, pz_gi_si_n, pz_gi_sl, pz_gi_sa, pz_gi_sA, pz_gi_sp, pz_gl_si, pz_gl_sl, pz_gl_sl_n, pz_gl_sa, pz_gl_sA, pz_gl_sp, pz_ga_si, pz_ga_sl, pz_ga_sa, pz_ga_sa_n, pz_ga_sA, pz_ga_sp, pz_gA_si, pz_gA_sl, pz_gA_sa, pz_gA_sA, pz_gA_sA_n, pz_gA_sp, pz_gp_si, pz_gp_sl, pz_gp_sa, pz_gp_sA, pz_gp_sp, pz_gp_sp_n, hA.2.2.2.2.1, pz_leI, nI_1]
      refine ⟨fun hge => ?_, fun hlt => ⟨fun hk => ⟨trivial, Or.inr ⟨rfl, Or.inl hk⟩⟩, fun hk => ?_⟩⟩
      · have : m = nn := by omega
        subst this
        exact ⟨trivial, pr_left_x hl⟩
      · obtain ⟨⟨d1, d2, d3⟩, ⟨d4, -⟩, -⟩ := hD m (by omega)
        have hPm : (decide (m < nn) && pr_op pc S m) = pr_op pc S m := by rw [decide_eq_true (show m < nn by omega), Bool.true_and]
        rw [pz_T_eq (pr_m_isOpen (S := S) (pc := pc) (M := zz_si M 0 0) (by omega) d3 d1 d4), pz_b_0]
        refine ⟨fun hb => hrc (by omega) _ (pr_left_f hl (by rw [hPm]; exact hb)), fun hb => ⟨fun h0 => ⟨trivial, ?_⟩, fun h0 => hrc (by omega) _ (pr_left_t hl hk (by rw [hPm]; simpa using hb) h0)⟩⟩
        exact pr_left_e hl hk (by omega) (by rw [hPm]; simpa using hb) h0
    obtain ⟨⟨b, M'⟩, h1, h2, h3⟩ := key
    dsimp only at h2 h3
    subst h2
    rw [h1]
    rw [pr_kth_uq (by omega) hv2 (pr_kth_n h3 (show nn ≤ 32 by omega) (fun i h1 h2 => by rw [decide_eq_false (by omega)]; rfl))]
theorem pr_o_blocking {W H D nn q : Nat} {pc : Nat → Nat} {pn : Nat → Nat → Nat} {N : Nat} (hN : 2000 ≤ N) {S M : zz_St} (hR : pr_R W H D nn q pc pn 0 (fun _ => False) S M) (p k : Int32) : pr_mo Int32.toInt64 Int32.toInt64 zz_h1 (pr_I W H D q) (zf_X6_blocking N (W * H * D) S p k) (zf_X7_blocking N M p k) := by
  have hA := hR.2.1
  have hnn := hA.2.2.1
  apply pr_mo_of
  unfold zf_X6_blocking
  rcases pr_net (N := N) (z := (W * H * D)) hnn hA.2.2.2.1 hA.2.2.2.2.1 p with ⟨n, hn, rfl, h1, h2⟩ | ⟨h1, h2⟩
  · rw [pz_T_bxl h1]
    obtain ⟨d1, ⟨d2, d3⟩, d4, d5, d6, d7⟩ := hR.2.2.2.2.1 n (by omega)
    obtain ⟨v, hv1, hv⟩ := pr_c_memberAt (x := zz_ga S 23 n) (k := k) hN
    simp only [pz_T_b1, pz_T_some]
    rw [pz_T_eq hv1]
    have key : pz_T (zf_X7_blocking N M (nI n) k) (fun r => r.2 = zz_si M 0 0 ∧ pr_kth (bt (zz_ga S 23 n)) nn k r.1) := by
      unfold zf_X7_blocking
      simp only [pz_T_b1, pz_T_jn1, pz_T_ite, pz_T_let, pz_T_eq h2]
      simp only [pz_gi_si, pr_10]
      refine ⟨fun h => h.elim, fun _ => ⟨fun _ => ?_, fun h => absurd trivial h⟩⟩
      refine pz_for2r (e := nn) (fun m left => pr_left (bt (zz_ga S 23 n)) k m left) ?_ N 0 k (by omega) pr_left_0 (by omega)
      intro rc m left hm hl hrc
      simp only [pz_T_ite, pz_T_gd, pz_T_jn1, pz_T_jn2, pz_T_some, pz_T_let, pz_T_b1, pz_T_b2]
      simp (disch := omega) only [pz_gi_si, pz_gi_si_n, pz_gi_sl, pz_gi_sa, pz_gi_sA, pz_gi_sp, pz_gl_si, pz_gl_sl, pz_gl_sl_n, pz_gl_sa, pz_gl_sA, pz_gl_sp, pz_ga_si, pz_ga_sl, pz_ga_sa, pz_ga_sa_n, pz_ga_sA, pz_ga_sp, pz_gA_si, pz_gA_sl, pz_gA_sa, pz_gA_sA, pz_gA_sA_n, pz_gA_sp, pz_gp_si, pz_gp_sl, pz_gp_sa, pz_gp_sA, pz_gp_sp, pz_gp_sp_n, hA.2.2.2.2.1, pz_leI, nI_1, pz_in, nI_clampI, d6]
      refine ⟨fun hge => ?_, fun hlt => ⟨fun hk => ⟨trivial, Or.inr ⟨rfl, Or.inl hk⟩⟩, fun hk => ⟨by omega, ?_⟩⟩⟩
      · have : m = nn := by omega
        subst this
        exact ⟨trivial, pr_left_x hl⟩
      · rw [pz_bt_s (by omega)]
        refine ⟨fun hb => hrc (by omega) _ (pr_left_f hl hb), fun hb => ⟨fun h0 => ⟨trivial, ?_⟩, fun h0 => hrc (by omega) _ (pr_left_t hl hk (by simpa using hb) h0)⟩⟩
        exact pr_left_e hl hk (by omega) (by simpa using hb) h0
    refine pz_T_mono key ?_
    rintro ⟨b, M'⟩ ⟨h3, h4⟩
    dsimp only at h3 h4
    subst h3
    rw [pr_kth_uq (by omega) hv (pr_kth_n h4 (show nn ≤ 32 by omega) (fun i h1 h2 => by
      cases hb : bt (zz_ga S 23 n) i
      · rfl
      · have := d7 i h2 hb; omega))]
    exact pr_ok pz_gi_si rfl (pr_I_th hR (Nat.le_refl _))
  · rw [pz_T_bxr h1]
    unfold zf_X7_blocking
    simp only [pz_T_b1, pz_T_jn1, pz_T_ite, pz_T_let, pz_T_eq h2, pz_T_some]
    simp only [pz_gi_si, pr_10]
    exact ⟨fun _ => ⟨fun h => h.elim, fun _ => pr_th rfl (by decide) pz_gi_si (pr_I_th hR (Nat.le_refl _))⟩, fun h => absurd trivial h⟩
theorem pr_price {N : Nat} (p : Int32) : (∃ a, a ≤ 50 ∧ p = nI a ∧ zf_X6_isPrice N p = some 1 ∧ zf_X7_isCost N p = some 1) ∨ (zf_X6_isPrice N p = some 0 ∧ zf_X7_isCost N p = some 0) := by
  have he : zf_X7_isCost N p = zf_X6_isPrice N p := rfl
  rw [he]
  by_cases hp : p < 0
  · refine Or.inr ⟨?_, ?_⟩ <;>
    · apply pz_eq_of
      unfold zf_X6_isPrice
      simp only [pz_T_ite, pz_T_gd, pz_T_jn1, pz_T_jn2, pz_T_some, pz_T_let, pz_T_b1, pz_T_b2]
      exact ⟨fun _ => ⟨by decide, trivial⟩, fun h => absurd hp h⟩
  · obtain ⟨a, ha, rfl⟩ := nI_of hp
    by_cases h5 : a ≤ 50
    · refine Or.inl ⟨a, h5, rfl, ?_, ?_⟩ <;>
      · apply pz_eq_of
        unfold zf_X6_isPrice
        simp only [pz_T_ite, pz_T_gd, pz_T_jn1, pz_T_jn2, pz_T_some, pz_T_let, pz_T_b1, pz_T_b2]
        rw [pz_c50b (by omega)]
        exact ⟨fun h => absurd h hp, fun _ => ⟨fun h => by omega, fun _ => ⟨by decide, trivial⟩⟩⟩
    · refine Or.inr ⟨?_, ?_⟩ <;>
      · apply pz_eq_of
        unfold zf_X6_isPrice
        simp only [pz_T_ite, pz_T_gd, pz_T_jn1, pz_T_jn2, pz_T_some, pz_T_let, pz_T_b1, pz_T_b2]
        rw [pz_c50b (by omega)]
        exact ⟨fun h => absurd h hp, fun _ => ⟨fun _ => ⟨by decide, trivial⟩, fun h => absurd (by omega) h⟩⟩
theorem pr_R_cost {W H D nn q : Nat} {pc : Nat → Nat} {pn : Nat → Nat → Nat} {k : Nat} {T : Nat → Prop} {S M : zz_St} (hR : pr_R W H D nn q pc pn k T S M) {l a v n : Nat} (ha : a ≤ 50) (hv : v ≤ 50) (hn : n ≤ 50) :
    pr_R W H D nn q pc pn k T (zz_sa (zz_sa (zz_sa S 13 (upd (zz_ga S 13) l (nI a))) 14 (upd (zz_ga S 14) l (nI v))) 15 (upd (zz_ga S 15) l (nI n))) (zz_sa (zz_sa (zz_sa M 7 (upd (zz_ga M 7) l (nI a))) 8 (upd (zz_ga M 8) l (nI v))) 9 (upd (zz_ga M 9) l (nI n))) := by
  obtain ⟨hs, hA, hB, hC, hD, hE, hF, hG⟩ := hR
  unfold pr_R pr_A pr_B pr_D pr_E pr_F pr_G pr_G1 pz_cgeo pz_mgeo at *
  simp (disch := omega) only [pz_gi_si, pz_gi_si_n, pz_gi_sl, pz_gi_sa, pz_gi_sA, pz_gi_sp, pz_gl_si, pz_gl_sl, pz_gl_sl_n, pz_gl_sa, pz_gl_sA, pz_gl_sp, pz_ga_si, pz_ga_sl, pz_ga_sa, pz_ga_sa_n, pz_ga_sA, pz_ga_sp, pz_gA_si, pz_gA_sl, pz_gA_sa, pz_gA_sA, pz_gA_sA_n, pz_gA_sp, pz_gp_si, pz_gp_sl, pz_gp_sa, pz_gp_sA, pz_gp_sp, pz_gp_sp_n]
  refine ⟨hs, hA, hB, ?_, hD, hE, hF, hG⟩
  intro x hx
  simp (disch := omega) only [pz_gi_si, pz_gi_si_n, pz_gi_sl, pz_gi_sa, pz_gi_sA, pz_gi_sp, pz_gl_si, pz_gl_sl, pz_gl_sl_n, pz_gl_sa, pz_gl_sA, pz_gl_sp, pz_ga_si, pz_ga_sl, pz_ga_sa, pz_ga_sa_n, pz_ga_sA, pz_ga_sp, pz_gA_si, pz_gA_sl, pz_gA_sa, pz_gA_sA, pz_gA_sA_n, pz_gA_sp, pz_gp_si, pz_gp_sl, pz_gp_sa, pz_gp_sA, pz_gp_sp, pz_gp_sp_n]
  by_cases e1 : x = l
  · subst e1
    refine ⟨a, v, n, ⟨ha, hv, hn⟩, ?_⟩
    simp only [pk_us, and_self]
  · rw [pk_un e1, pk_un e1, pk_un e1, pk_un e1, pk_un e1, pk_un e1]
    exact hC x hx
theorem pr_o_cost {W H D nn q : Nat} {pc : Nat → Nat} {pn : Nat → Nat → Nat} {N : Nat} (hN : 2000 ≤ N) {S M : zz_St} (hR : pr_R W H D nn q pc pn 0 (fun _ => False) S M) (p1 p2 p3 p4 : Int32) : pr_mo zz_cvZ zz_cvZ zz_h2 (pr_I W H D q) (zf_X6_cost N (W * H * D) S p1 p2 p3 p4) (zf_X7_cost N M p1 p2 p3 p4) := by
  have hA := hR.2.1
  have hd4 := hR.1.2.2.2.2.2.2.2
  have g4 : zz_gi S 4 = nI D := hA.1.2.2.1
  have g3 : zz_gi M 3 = nI D := hA.2.1.2.2
  apply pr_mo_of
  unfold zf_X6_cost
  have hbad1 : pr_rel (V := Int32) zz_cvZ zz_cvZ zz_h2 (pr_I W H D q) (Sum.inr (1, S)) ((0 : Int32), zz_si M 0 1) := pr_th rfl (by decide) pz_gi_si (pr_I_th hR (Nat.le_refl _))
  have hbad2 : pr_rel (V := Int32) zz_cvZ zz_cvZ zz_h2 (pr_I W H D q) (Sum.inr (2, S)) ((0 : Int32), zz_si M 0 2) := pr_th rfl (by decide) pz_gi_si (pr_I_th hR (Nat.le_refl _))
  have h20 : ((2 : Int32) = 0) = False := by simp
  by_cases hp : p1 < 0
  · unfold zf_X7_cost
    simp only [pz_T_ite, pz_T_gd, pz_T_jn1, pz_T_jn2, pz_T_some, pz_T_let, pz_T_b1, pz_T_b2]
    simp [hp, pz_gi_si]
    exact hbad1
  obtain ⟨l, hl, rfl⟩ := nI_of hp
  by_cases hlD : l < D
  · have hl4 : l < 4 := by omega
    have hin : zz_in (nI l) 4 = true := (pz_in hl).mpr hl4
    have hlt : nI l < nI D := by rw [pz_ltI hl (by omega)]; exact hlD
    unfold zf_X7_cost zf_X3_change
    simp only [pz_T_ite, pz_T_gd, pz_T_jn1, pz_T_jn2, pz_T_some, pz_T_let, pz_T_b1, pz_T_b2]
    simp only [g4, g3, hp, hlt, hin, if_true, if_false, not_false_iff, not_true, false_imp_iff, true_imp_iff, true_and, and_true, pz_gi_si, pr_10, h20, nI_clampI hl]
    rcases pr_price (N := N) p2 with ⟨a, ha, rfl, a1, a2⟩ | ⟨a1, a2⟩
    · simp only [pz_T_eq a1, pz_T_eq a2, pr_10, not_false_iff, false_imp_iff, true_imp_iff, true_and]
      rcases pr_price (N := N) p3 with ⟨v, hv, rfl, b1, b2⟩ | ⟨b1, b2⟩
      · simp only [pz_T_eq b1, pz_T_eq b2, pr_10, not_false_iff, false_imp_iff, true_imp_iff, true_and]
        rcases pr_price (N := N) p4 with ⟨n, hn, rfl, c1, c2⟩ | ⟨c1, c2⟩
        · simp only [pz_T_eq c1, pz_T_eq c2, pr_10, not_false_iff, false_imp_iff, true_imp_iff, true_and]
          obtain ⟨xa, xv, xn, -, ⟨s1, s2, s3⟩, m1, m2, m3⟩ := hR.2.2.2.1 l hl4
          simp (disch := omega) only [pz_gi_si, pz_gi_si_n, pz_gi_sl, pz_gi_sa, pz_gi_sA, pz_gi_sp, pz_gl_si, pz_gl_sl, pz_gl_sl_n, pz_gl_sa, pz_gl_sA, pz_gl_sp, pz_ga_si, pz_ga_sl, pz_ga_sa, pz_ga_sa_n, pz_ga_sA, pz_ga_sp, pz_gA_si, pz_gA_sl, pz_gA_sa, pz_gA_sA, pz_gA_sA_n, pz_gA_sp, pz_gp_si, pz_gp_sl, pz_gp_sa, pz_gp_sA, pz_gp_sp, pz_gp_sp_n, s1, s2, s3, m1, m2, m3, pz_bl0, pz_bl1, true_and]
          have hfin : ∀ w : Int32, pr_rel zz_cvZ zz_cvZ zz_h2 (pr_I W H D q) (Sum.inl (w, (zz_sa (zz_sa (zz_sa S 13 (upd (zz_ga S 13) l (nI a))) 14 (upd (zz_ga S 14) l (nI v))) 15 (upd (zz_ga S 15) l (nI n))))) (w, (zz_sa (zz_sa (zz_sa (zz_si M 0 0) 7 (upd (zz_ga M 7) l (nI a))) 8 (upd (zz_ga M 8) l (nI v))) 9 (upd (zz_ga M 9) l (nI n)))) := fun w => pr_ok (show zz_gi (zz_si M 0 0) 0 = 0 from pz_gi_si) rfl ⟨nn, pc, pn, pr_R_cost (pr_R_th hR) ha hv hn⟩
          by_cases q1 : nI xa = nI a
          · by_cases q2 : nI xv = nI v
            · by_cases q3 : nI xn = nI n
              · simp only [q1, q2, q3, not_true, true_imp_iff, false_imp_iff, true_and, and_true]
                exact hfin 0
              · simp only [q1, q2, q3, not_true, not_false_iff, true_imp_iff, false_imp_iff, true_and, and_true]
                exact hfin 1
            · simp only [q1, q2, not_true, not_false_iff, true_imp_iff, false_imp_iff, true_and, and_true]
              exact hfin 1
          · simp only [q1, not_true, not_false_iff, true_imp_iff, false_imp_iff, true_and, and_true]
            exact hfin 1
        · simp only [pz_T_eq c1, pz_T_eq c2, true_imp_iff, not_true, false_imp_iff, and_true]
          exact hbad2
      · simp only [pz_T_eq b1, pz_T_eq b2, true_imp_iff, not_true, false_imp_iff, and_true]
        exact hbad2
    · simp only [pz_T_eq a1, pz_T_eq a2, true_imp_iff, not_true, false_imp_iff, and_true]
      exact hbad2
  · have hlt : ¬ nI l < nI D := by rw [pz_ltI hl (by omega)]; exact hlD
    unfold zf_X7_cost
    simp only [pz_T_ite, pz_T_gd, pz_T_jn1, pz_T_jn2, pz_T_some, pz_T_let, pz_T_b1, pz_T_b2]
    simp only [g4, g3, hp, hlt, not_false_iff, not_true, false_imp_iff, true_imp_iff, true_and, and_true, pz_gi_si, pr_10]
    exact hbad1

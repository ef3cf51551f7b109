def pr_Gc (N z : Nat) (x4 : Int32) : (Int32 → zz_St → Option zz_St) → Int32 → zz_St → Option zz_St := (fun rc8 (v6 : Int32) (S7 : zz_St) => if x4 ≤ v6 then (zz_let (zz_si S7 1 ((zz_gi S7 1) + ((1 : Int32)))) (fun S10 => some S10)) else (zz_gd (zz_in v6 12) (zz_gd (zz_in (zz_ga S7 7 v6.toNatClampNeg) 12) (zz_b1 (zf_X2_isOpen N z S7 ((zz_ga S7 7 v6.toNatClampNeg).toNatClampNeg)) (fun x12 => zz_jn1 (fun (S13 : zz_St) => zz_let (v6 + (1 : Int32)) (fun x16 => rc8 x16 S13)) (fun j14 => if x12 = 0 then (j14 S7) else (zz_gd (zz_in v6 12) (zz_b1 (zf_X6_lead N z S7 (zz_ga S7 7 v6.toNatClampNeg)) (fun S17 => j14 S17)))))))))
def pr_Gm (N : Nat) (v3 : Int32) : (Int32 → zz_St → Option zz_St) → Int32 → zz_St → Option zz_St := (fun rc16 (v14 : Int32) (S15 : zz_St) => if v3 ≤ v14 then (zz_let (zz_si S15 5 ((zz_gi S15 5) + ((1 : Int32)))) (fun S18 => some S18)) else (zz_gd (zz_in v14 12) (zz_b1 (zf_X7_isOpen N S15 (zz_ga S15 18 v14.toNatClampNeg)) (fun x19 => zz_jn1 (fun (S20 : zz_St) => zz_let (v14 + (1 : Int32)) (fun x23 => rc16 x23 S20)) (fun j21 => if x19 = 0 then (j21 S15) else (zz_gd (zz_in v14 12) (zz_b1 (zf_X7_lead N S15 (zz_ga S15 18 v14.toNatClampNeg)) (fun S24 => j21 S24))))))))
theorem pr_round_c {N z : Nat} {S : zz_St} : zf_X6_playRound N z S = zz_b1 (zf_X6_openNets N z S) (fun x1 => zz_b2 (zf_X6_putInOrder N z S x1) (fun x3 S2 => zz_let x3 (fun x4 => zz_let ((0 : Int32)) (fun x5 => zz_fix2 (pr_Gc N z x4) N x5 S2)))) := rfl
theorem pr_turn_m {N : Nat} {S : zz_St} : zf_X7_turn N S = zz_let ((0 : Int32)) (fun x1 => zz_let ((0 : Int32)) (fun x2 => zz_fix3 (fun rc6 (v3 : Int32) (v4 : Int32) (S5 : zz_St) => if (zz_gi S5 4) ≤ v4 then (zz_let (v3 - ((1 : Int32))) (fun x8 => zz_fix2 (fun rc11 (v9 : Int32) (S10 : zz_St) => if v9 ≤ 0 then (zz_let ((0 : Int32)) (fun x13 => zz_fix2 (pr_Gm N v3) N x13 S10)) else (zz_b2 (zf_X7_draw N S10) (fun x26 S25 => zz_gd (!(((v9 + ((1 : Int32))).toInt64) == 0)) (zz_let ((x26 - x26 / ((v9 + ((1 : Int32))).toInt64) * ((v9 + ((1 : Int32))).toInt64)).toInt32) (fun x27 => zz_gd (zz_in v9 12) (zz_let (zz_ga S25 18 v9.toNatClampNeg) (fun x28 => zz_gd (zz_in x27 12) (zz_gd (zz_in v9 12) (zz_let (zz_sa S25 18 (upd (zz_ga S25 18) v9.toNatClampNeg (zz_ga S25 18 x27.toNatClampNeg))) (fun S29 => zz_gd (zz_in x27 12) (zz_let (zz_sa S29 18 (upd (zz_ga S29 18) x27.toNatClampNeg x28)) (fun S30 => zz_let (v9 + (-1 : Int32)) (fun x31 => rc11 x31 S30))))))))))))) N x8 S5)) else (zz_b1 (zf_X7_isOpen N S5 v4) (fun x32 => zz_jn2 (fun (v33 : Int32) (S34 : zz_St) => zz_let (v4 + (1 : Int32)) (fun x37 => rc6 v33 x37 S34)) (fun j35 => if x32 = 0 then (j35 v3 S5) else (zz_gd (zz_in v3 12) (zz_let (zz_sa S5 18 (upd (zz_ga S5 18) v3.toNatClampNeg v4)) (fun S38 => zz_let (v3 + (1 : Int32)) (fun x39 => j35 x39 S38)))))))) N x1 x2 S)) := rfl
def pr_Rc (N z : Nat) (p1 : Int32) : (Int32 → zz_St → Option ((Int32 × zz_St) ⊕ (Nat × zz_St))) → Int32 → zz_St → Option ((Int32 × zz_St) ⊕ (Nat × zz_St)) := (fun rc7 (v5 : Int32) (S6 : zz_St) => zz_jn1 (fun (u9 : Unit) => zz_b1 (zf_X6_openNets N z S6) (fun x12 => zz_b1 (zf_J6_bitCount_0f7a4 N x12) (fun x13 => some (Sum.inl (x13, S6))))) (fun j10 => if p1 ≤ v5 then (j10 ()) else (zz_b1 (zf_X6_openNets N z S6) (fun x14 => if x14 = 0 then (j10 ()) else (zz_b1 (zf_X6_playRound N z S6) (fun S15 => zz_let (v5 + (1 : Int32)) (fun x16 => rc7 x16 S15)))))))
def pr_Rm (N : Nat) (p1 : Int32) : (Int32 → zz_St → Option (Int32 × zz_St)) → Int32 → zz_St → Option (Int32 × zz_St) := (fun rc8 (v6 : Int32) (S7 : zz_St) => zz_jn1 (fun (u10 : Unit) => zz_b1 (zf_X7_openCount N S7) (fun x13 => some (x13, S7))) (fun j11 => if p1 ≤ v6 then (j11 ()) else (zz_b1 (zf_X7_openCount N S7) (fun x14 => if x14 ≤ 0 then (j11 ()) else (zz_b1 (zf_X7_turn N S7) (fun S15 => zz_let (v6 + (1 : Int32)) (fun x16 => rc8 x16 S15)))))))
theorem pr_run_c {N z : Nat} {S : zz_St} {p1 : Int32} : zf_X6_run N z S p1 = zz_jn1 (fun (u1 : Unit) => some (Sum.inr (2, S))) (fun j2 => if p1 < ((1 : Int32)) then (j2 ()) else (if p1 ≤ ((20 : Int32)) then (zz_let ((0 : Int32)) (fun x4 => zz_fix2 (pr_Rc N z p1) N x4 S)) else (j2 ()))) := rfl
theorem pr_run_m {N : Nat} {S : zz_St} {p1 : Int32} : zf_X7_run N S p1 = zz_jn1 (fun (v1 : Int32) => zz_let (zz_si S 0 v1) (fun S4 => if (zz_gi S4 0) = 0 then (zz_let ((0 : Int32)) (fun x5 => zz_fix2 (pr_Rm N p1) N x5 S4)) else (some ((0 : Int32), S4)))) (fun j2 => zz_jn1 (fun (u17 : Unit) => j2 ((1 : Int32))) (fun j18 => if p1 < ((1 : Int32)) then (j18 ()) else (if ((20 : Int32)) < p1 then (j18 ()) else (j2 ((0 : Int32)))))) := rfl
theorem pr_R_round {W H D nn q : Nat} {pc : Nat → Nat} {pn : Nat → Nat → Nat} {k : Nat} {T : Nat → Prop} {S M : zz_St} (h : pr_R W H D nn q pc pn k T S M) : pr_R W H D nn q pc pn k T (zz_si S 1 (zz_gi S 1 + 1)) (zz_si M 5 (zz_gi M 5 + 1)) := by
  obtain ⟨hs, hA, hB, hC, hD, hE, hF, hG⟩ := h
  refine ⟨hs, ?_, hB, hC, hD, hE, hF, hG⟩
  unfold pr_A pz_cgeo pz_mgeo at *
  simp (disch := omega) only [pz_gi_si, pz_gi_si_n, pz_gi_sl, pz_gi_sa, pz_gi_sA, pz_gi_sp, pz_gl_si, pz_gl_sl, pz_gl_sl_n, pz_gl_sa, pz_gl_sA, pz_gl_sp, pz_ga_si, pz_ga_sl, pz_ga_sa, pz_ga_sa_n, pz_ga_sA, pz_ga_sp, pz_gA_si, pz_gA_sl, pz_gA_sa, pz_gA_sA, pz_gA_sA_n, pz_gA_sp, pz_gp_si, pz_gp_sl, pz_gp_sa, pz_gp_sA, pz_gp_sp, pz_gp_sp_n]
  obtain ⟨a1, a2, a3, a4, a5, a6, a7⟩ := hA
  exact ⟨a1, a2, a3, a4, a5, by rw [a6], a7⟩
theorem pr_R_r {W H D nn q : Nat} {pc : Nat → Nat} {pn : Nat → Nat → Nat} {k : Nat} {T : Nat → Prop} {S M : zz_St} (h : pr_R W H D nn q pc pn k T S M) {f g : Nat → Int32} {s : Int64} : pr_R W H D nn q pc pn k T (pr_r S 7 f s) (pr_r M 18 g s) := by
  have h1 : pr_R W H D nn q pc pn k T (zz_sa S 7 f) (zz_sa M 18 g) := by
    refine pr_R_m (pr_R_c h (fun _ _ => rfl) rfl (fun r hr => pz_ga_sa_n (by omega)) rfl rfl (fun _ => rfl)) (fun _ _ => rfl) rfl (fun r h1 h2 => pz_ga_sa_n (by omega)) rfl rfl
  obtain ⟨hs, hA, hB, hC, hD, hE, hF, hG⟩ := h1
  refine ⟨hs, ?_, hB, hC, hD, hE, hF, hG⟩
  unfold pr_A at *
  rw [pr_r_gl, pr_r_gl]
  obtain ⟨a1, a2, a3, a4, a5, a6, a7⟩ := hA
  exact ⟨a1, a2, a3, a4, a5, a6, rfl⟩
theorem pr_leads {W H D nn q : Nat} {pc : Nat → Nat} {pn : Nat → Nat → Nat} {N cnt : Nat} {l : Nat → Nat} (hq : q + 200 ≤ 1000000000) (hN : 2000 ≤ N) (hcnt : cnt ≤ 12) (hl : ∀ i, i < cnt → l i < nn) {S M : zz_St}
    (hR : pr_R W H D nn q pc pn 0 (fun _ => False) S M) (h7 : ∀ i, i < cnt → zz_ga S 7 i = nI (l i)) (h18 : ∀ i, i < cnt → zz_ga M 18 i = nI (l i)) :
    pz_T (zz_fix2 (pr_Gc N (W * H * D) (nI cnt)) N 0 S) (fun S' => pz_T (zz_fix2 (pr_Gm N (nI cnt)) N 0 M) (fun M' => pr_R W H D nn (q + 80) pc pn 0 (fun _ => False) S' M' ∧ zz_gi M' 0 = zz_gi M 0)) := by
  obtain ⟨o0, h00⟩ : ∃ o, zz_gi M 0 = o := ⟨_, rfl⟩
  rw [h00]
  refine pz_fix22 (fun m v S v' M => ∃ i, v = nI i ∧ v' = nI i ∧ cnt - i = m ∧ i ≤ cnt ∧ pr_R W H D nn (q + 6 * i) pc pn 0 (fun _ => False) S M ∧ (∀ i, i < cnt → zz_ga S 7 i = nI (l i)) ∧ (∀ i, i < cnt → zz_ga M 18 i = nI (l i)) ∧ zz_gi M 0 = o0) ?_ N N cnt _ _ _ _ ⟨0, rfl, rfl, by omega, by omega, hR, h7, h18, h00⟩ (by omega) (by omega)
  clear hR h7 h18 h00 S M
  rintro rc rm m _ S _ M ⟨i, rfl, rfl, rfl, hi, hR, h7, h18, h00⟩ hrec
  by_cases hend : cnt ≤ i
  · unfold pr_Gc
    simp only [pz_T_ite]
    rw [pz_leI (by omega) (by omega)]
    refine ⟨fun _ => ?_, fun h => absurd hend h⟩
    simp only [pz_T_let, pz_T_some]
    unfold pr_Gm
    simp only [pz_T_ite]
    rw [pz_leI (by omega) (by omega)]
    refine ⟨fun _ => ?_, fun h => absurd hend h⟩
    simp only [pz_T_let, pz_T_some]
    exact ⟨pr_R_q (pr_R_round hR) (by omega), by rw [pz_gi_si_n (by decide)]; exact h00⟩
  · have hi' : i < cnt := by omega
    have hln := hl i hi'
    have hR0 := hR
    obtain ⟨hs, hA, hB, hC, hD, hE, hF, hG⟩ := hR
    have hnn := hA.2.2.1
    obtain ⟨⟨d1, d2, d3⟩, ⟨d4, -⟩, -⟩ := hD (l i) (by omega)
    have hoc : zf_X2_isOpen N (W * H * D) S (l i) = some (pz_b (pr_op pc S (l i))) := pr_c_isOpen d2 d1
    have hom : zf_X7_isOpen N M (nI (l i)) = some (pz_b (pr_op pc S (l i))) := pr_m_isOpen (by omega) d3 d1 d4
    have hcs : ∀ {Q : zz_St → Prop} {S' : zz_St}, ((pr_op pc S (l i) = false ∧ S' = S) ∨ (pr_op pc S (l i) = true ∧ zf_X6_lead N (W * H * D) S (nI (l i)) = some S')) → pz_T (rc (nI (i + 1)) S') Q → pz_T (pr_Gc N (W * H * D) (nI cnt) rc (nI i) S) Q := by
      intro Q S' hx hQ
      unfold pr_Gc
      simp only [pz_T_ite, pz_T_gd, pz_T_jn1, pz_T_jn2, pz_T_some, pz_T_let, pz_T_b1, pz_T_b2]
      simp (disch := omega) only [pz_leI, pz_in, nI_clampI, h7 i hi', nI_1]
      refine ⟨fun h => absurd h hend, fun _ => ⟨by omega, by omega, ?_⟩⟩
      rw [pz_T_eq hoc, pz_b_0]
      rcases hx with ⟨hx, rfl⟩ | ⟨hx, hx2⟩
      · exact ⟨fun _ => hQ, fun h => absurd hx h⟩
      · refine ⟨fun h => ?_, fun _ => ⟨by omega, ?_⟩⟩
        · rw [hx] at h; cases h
        · rw [pz_T_eq hx2]; exact hQ
    have hms : ∀ {Q : zz_St → Prop} {M' : zz_St}, ((pr_op pc S (l i) = false ∧ M' = M) ∨ (pr_op pc S (l i) = true ∧ zf_X7_lead N M (nI (l i)) = some M')) → pz_T (rm (nI (i + 1)) M') Q → pz_T (pr_Gm N (nI cnt) rm (nI i) M) Q := by
      intro Q M' hx hQ
      unfold pr_Gm
      simp only [pz_T_ite, pz_T_gd, pz_T_jn1, pz_T_jn2, pz_T_some, pz_T_let, pz_T_b1, pz_T_b2]
      simp (disch := omega) only [pz_leI, pz_in, nI_clampI, h18 i hi', nI_1]
      refine ⟨fun h => absurd h hend, fun _ => ⟨by omega, ?_⟩⟩
      rw [pz_T_eq hom, pz_b_0]
      rcases hx with ⟨hx, rfl⟩ | ⟨hx, hx2⟩
      · exact ⟨fun _ => hQ, fun h => absurd hx h⟩
      · refine ⟨fun h => ?_, fun _ => ⟨by omega, ?_⟩⟩
        · rw [hx] at h; cases h
        · rw [pz_T_eq hx2]; exact hQ
    cases hop : pr_op pc S (l i)
    · refine hcs (Or.inl ⟨hop, rfl⟩) (pz_T_mono (hrec (cnt - (i + 1)) _ S _ M (by omega) ⟨i + 1, rfl, rfl, rfl, by omega, pr_R_q hR0 (by omega), h7, h18, h00⟩) (fun r hr => hms (Or.inl ⟨hop, rfl⟩) hr))
    · obtain ⟨o1, o2⟩ := pr_op_t.mp hop
      obtain ⟨S', hS', M', hM', r1, r2, r3⟩ := pr_lead (k := l i) hR0 hln o1 o2 (by omega) hN
      refine hcs (Or.inr ⟨hop, hS'⟩) (pz_T_mono (hrec (cnt - (i + 1)) _ S' _ M' (by omega) ⟨i + 1, rfl, rfl, rfl, by omega, pr_R_q (pr_R_k r1) (by omega), ?_, ?_, ?_⟩) (fun r hr => hms (Or.inr ⟨hop, hM'⟩) hr))
      · rw [r2]; exact h7
      · rw [r3.1]; exact h18
      · rw [r3.2]; exact h00
theorem pr_turn {W H D nn q : Nat} {pc : Nat → Nat} {pn : Nat → Nat → Nat} {N : Nat} (hq : q + 200 ≤ 1000000000) (hN : 2000 ≤ N) {S M : zz_St} (hR : pr_R W H D nn q pc pn 0 (fun _ => False) S M) :
    pz_T (zf_X6_playRound N (W * H * D) S) (fun S' => pz_T (zf_X7_turn N M) (fun M' => pr_R W H D nn (q + 80) pc pn 0 (fun _ => False) S' M' ∧ zz_gi M' 0 = zz_gi M 0)) := by
  have hR0 := hR
  obtain ⟨hs, hA, hB, hC, hD, hE, hF, hG⟩ := hR
  have hnn := hA.2.2.1
  obtain ⟨x, hx1, hx⟩ := pr_c_openNets (z := (W * H * D)) (pc := pc) hN hnn hA.2.2.2.1 (fun n hn => ⟨(hD n hn).1.1, (hD n hn).1.2.1⟩)
  have hP : ∀ i, i < nn → bt x i = pr_op pc S i := by
    intro i hi
    rw [hx i (by omega), decide_eq_true hi, Bool.true_and]
  obtain ⟨r, ho, f, hr, hf⟩ := pr_c_order (z := (W * H * D)) (S := S) (P := pr_op pc S) hN hnn hA.2.2.2.1 hP
  subst hr
  have hcn := pz_cnt_le (pr_op pc S) nn
  rw [pr_round_c]
  simp only [pz_T_b1, pz_T_b2, pz_T_let]
  rw [pz_T_eq hx1, pz_T_eq ho]
  refine pz_T_swap ?_
  generalize hCL : zz_fix2 (pr_Gc N (W * H * D) (nI (pz_cnt (pr_op pc S) nn))) N 0 (pr_r S 7 f (pr_shg pr_nx pr_dr (pz_cnt (pr_op pc S) nn - 1) (pr_sel (pr_op pc S) nn) (zz_gl S 0)).2) = CL
  try dsimp only
  try rw [hCL]
  have hfin : ∀ g, (∀ i, i < pz_cnt (pr_op pc S) nn → g i = nI ((pr_shg pr_nx pr_dr (pz_cnt (pr_op pc S) nn - 1) (pr_sel (pr_op pc S) nn) (zz_gl S 0)).1 i)) → pz_T (zz_fix2 (pr_Gm N (nI (pz_cnt (pr_op pc S) nn))) N 0 (pr_r M 18 g (pr_shg pr_nx pr_dr (pz_cnt (pr_op pc S) nn - 1) (pr_sel (pr_op pc S) nn) (zz_gl S 0)).2)) (fun b => pz_T CL (fun a => pr_R W H D nn (q + 80) pc pn 0 (fun _ => False) a b ∧ zz_gi b 0 = zz_gi M 0)) := by
    intro g hg
    subst hCL
    refine pz_T_swap (pr_leads (l := (pr_shg pr_nx pr_dr (pz_cnt (pr_op pc S) nn - 1) (pr_sel (pr_op pc S) nn) (zz_gl S 0)).1) hq hN (by omega) ?_ (pr_R_r hR0) ?_ ?_)
    · intro i hi
      exact pr_shg_lt (fun s m h => pr_dr_lt h) _ _ _ (by omega) pr_sel_lt i hi
    · rw [pr_r_ga]; exact hf
    · rw [pr_r_ga]; exact hg
  clear hCL hf ho
  have hgl : zz_gl M 0 = zz_gl S 0 := hA.2.2.2.2.2.2
  rw [pr_turn_m]
  rw [pz_T_let, pz_T_let]
  refine pz_for3 (e := nn) (fun m v S5 => v = nI (pz_cnt (pr_op pc S) m) ∧ ∃ f, S5 = pr_r M 18 f (zz_gl S 0) ∧ ∀ i, i < pz_cnt (pr_op pc S) m → f i = nI (pr_sel (pr_op pc S) m i)) ?_ N 0 _ _ (by omega) ⟨rfl, zz_ga M 18, by rw [← hgl]; exact pr_r_id, fun i hi => by simp [pz_cnt] at hi⟩ (by omega)
  rintro rc m _ _ hm ⟨rfl, f, rfl, hf⟩ hrc
  have hcm := pz_cnt_le (pr_op pc S) m
  have hcmn := pr_cnt_n (P := pr_op pc S) hm
  have h4' : zz_gi (pr_r M 18 f (zz_gl S 0)) 4 = nI nn := hA.2.2.2.2.1
  simp only [pz_T_ite, h4']
  rw [pz_leI (by omega) (by omega)]
  refine ⟨fun hge => ?_, fun hlt => ?_⟩
  · have : m = nn := by omega
    subst this
    clear hrc
    rw [pz_T_let]
    by_cases hc0 : pz_cnt (pr_op pc S) m = 0
    · refine pz_fixm2 (fun mm v S10 => mm = 0 ∧ v = nI (pz_cnt (pr_op pc S) m) - 1 ∧ S10 = pr_r M 18 f (zz_gl S 0)) ?_ N 0 _ _ ⟨rfl, rfl, rfl⟩ (by omega)
      rintro rc2 mm _ _ ⟨-, rfl, rfl⟩ -
      rw [hc0] at hfin ⊢
      have e0 : (nI 0 - (1 : Int32)) ≤ 0 := by decide
      simp only [pz_T_ite, pz_T_let]
      exact ⟨fun _ => hfin f (fun i hi => by omega), fun h => absurd e0 h⟩
    · rw [pz_sub1 (by omega)]
      refine pz_fixm2 (fun mm v S10 => ∃ l f s, v = nI mm ∧ mm < pz_cnt (pr_op pc S) m ∧ S10 = pr_r M 18 f s ∧ (∀ i, i < pz_cnt (pr_op pc S) m → f i = nI (l i)) ∧ pr_shg pr_nx pr_dr mm l s = pr_shg pr_nx pr_dr (pz_cnt (pr_op pc S) m - 1) (pr_sel (pr_op pc S) m) (zz_gl S 0)) ?_ N (pz_cnt (pr_op pc S) m - 1) _ _ ⟨pr_sel (pr_op pc S) m, f, zz_gl S 0, rfl, by omega, rfl, hf, rfl⟩ (by omega)
      rintro rc2 mm _ _ ⟨l, g, s, rfl, hmm, rfl, hg, hsh⟩ hrc2
      simp only [pz_T_ite, pz_T_let]
      rw [pz_c0c (by omega)]
      refine ⟨fun hlt1 => ?_, fun hge1 => ?_⟩
      · have : mm = 0 := by omega
        subst this
        rw [← hsh] at hfin
        exact hfin g hg
      · simp only [pz_T_ite, pz_T_gd, pz_T_jn1, pz_T_jn2, pz_T_some, pz_T_let, pz_T_b1, pz_T_b2]
        rw [pz_T_eq pr_m_draw]
        have hdr := pr_dr_lt (s := pr_nx s) (m := mm + 1) (by omega)
        simp only [pr_l1 (show mm < 1000 by omega), pr_l1ne (show mm < 1000 by omega), pr_dr_r (s := pr_nx s) (show 0 < mm + 1 by omega) (by omega)]
        simp (disch := omega) only [pz_in, nI_clampI, pr_r_ga, pr_r_sa, pz_addm1]
        refine ⟨trivial, by omega, by omega, by omega, by omega, hrc2 (mm - 1) _ _ (by omega) ⟨pr_sw l mm (pr_dr (pr_nx s) (mm + 1)), _, pr_nx s, rfl, by omega, rfl, pr_upd_sw hg hmm (by omega), ?_⟩⟩
        rw [← hsh, pr_shg_p (k := mm) (by omega)]
  · simp only [pz_T_ite, pz_T_gd, pz_T_jn1, pz_T_jn2, pz_T_some, pz_T_let, pz_T_b1, pz_T_b2]
    obtain ⟨⟨d1, d2, d3⟩, ⟨d4, -⟩, -⟩ := hD m (by omega)
    rw [pz_T_eq (pr_m_isOpen (S := S) (pc := pc) (M := pr_r M 18 f (zz_gl S 0)) (by omega) (by unfold pr_r; rw [pz_ga_sl, pz_ga_sa_n (by decide)]; exact d3) d1 (by unfold pr_r; rw [pz_ga_sl, pz_ga_sa_n (by decide)]; exact d4)), pz_b_0]
    simp (disch := omega) only [nI_1, pz_in, nI_clampI, pr_r_ga, pr_r_sa]
    refine ⟨fun hp => hrc (by omega) _ _ ⟨by rw [pr_cnt_f hp], f, rfl, fun i hi => ?_⟩, fun hp => ?_⟩
    · rw [pr_cnt_f hp] at hi
      rw [pr_sel_f hp]
      exact hf i hi
    · have hp' : pr_op pc S m = true := by simpa using hp
      refine ⟨by omega, hrc (by omega) _ _ ⟨by rw [pr_cnt_s hp'], _, rfl, fun i hi => ?_⟩⟩
      rw [pr_cnt_s hp'] at hi
      rw [pr_sel_t hp']
      by_cases e1 : i = pz_cnt (pr_op pc S) m
      · subst e1; rw [pk_us, if_pos rfl]
      · rw [pk_un e1, if_neg e1]
        exact hf i (by omega)
/-- a call's answers in both -/
def pr_mo {V U : Type} (cv : V → Int64) (cm : U → Int64) (hn : Nat → Option Int32) (Q : zz_St → zz_St → Prop) (F : Option ((V × zz_St) ⊕ (Nat × zz_St))) (G : Option (U × zz_St)) : Prop :=
  ∃ b M', G = some (b, M') ∧ ((∃ v S', F = some (Sum.inl (v, S')) ∧ zz_gi M' 0 = 0 ∧ cv v = cm b ∧ Q S' M') ∨ (∃ e S' x, F = some (Sum.inr (e, S')) ∧ hn e = some x ∧ x ≠ 0 ∧ zz_gi M' 0 = x ∧ Q S' M'))
def pr_I (W H D q : Nat) (S M : zz_St) : Prop := ∃ nn pc pn, pr_R W H D nn q pc pn 0 (fun _ => False) S M
theorem pr_I_th {W H D nn q q' : Nat} {pc : Nat → Nat} {pn : Nat → Nat → Nat} {S M : zz_St} (h : pr_R W H D nn q pc pn 0 (fun _ => False) S M) (hq : q ≤ q') {v : Int32} : pr_I W H D q' S (zz_si M 0 v) :=
  ⟨nn, pc, pn, pr_R_q (pr_R_m h (fun i hi => pz_gi_si_n (by omega)) rfl (fun _ _ _ => rfl) rfl rfl) hq⟩
theorem pr_R_th {W H D nn q : Nat} {pc : Nat → Nat} {pn : Nat → Nat → Nat} {S M : zz_St} (h : pr_R W H D nn q pc pn 0 (fun _ => False) S M) {v : Int32} : pr_R W H D nn q pc pn 0 (fun _ => False) S (zz_si M 0 v) :=
  pr_R_m h (fun i hi => pz_gi_si_n (by omega)) rfl (fun _ _ _ => rfl) rfl rfl

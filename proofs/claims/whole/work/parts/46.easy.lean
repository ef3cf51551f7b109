theorem pz_T_bxl {V σ τ : Type} {x : Option ((V × σ) ⊕ (Nat × σ))} {k : V → σ → Option (τ ⊕ (Nat × σ))} {v : V} {s : σ} {P : (τ ⊕ (Nat × σ)) → Prop} (h : x = some (Sum.inl (v, s))) : pz_T (zz_bx x k) P ↔ pz_T (k v s) P := by
  subst h
  exact Iff.rfl
theorem pz_T_bxr {V σ τ : Type} {x : Option ((V × σ) ⊕ (Nat × σ))} {k : V → σ → Option (τ ⊕ (Nat × σ))} {e : Nat × σ} {P : (τ ⊕ (Nat × σ)) → Prop} (h : x = some (Sum.inr e)) : pz_T (zz_bx x k) P ↔ P (Sum.inr e) := by
  subst h
  exact pz_T_some
def pr_rel {V U : Type} (cv : V → Int64) (cm : U → Int64) (hn : Nat → Option Int32) (Q : zz_St → zz_St → Prop) (r : (V × zz_St) ⊕ (Nat × zz_St)) (b : U × zz_St) : Prop := (∃ v S', r = Sum.inl (v, S') ∧ zz_gi b.2 0 = 0 ∧ cv v = cm b.1 ∧ Q S' b.2) ∨ (∃ e S' x, r = Sum.inr (e, S') ∧ hn e = some x ∧ x ≠ 0 ∧ zz_gi b.2 0 = x ∧ Q S' b.2)
theorem pr_mo_of {V U : Type} {cv : V → Int64} {cm : U → Int64} {hn : Nat → Option Int32} {Q : zz_St → zz_St → Prop} {F : Option ((V × zz_St) ⊕ (Nat × zz_St))} {G : Option (U × zz_St)} (h : pz_T F (fun r => pz_T G (fun b => pr_rel cv cm hn Q r b))) : pr_mo cv cm hn Q F G := by
  obtain ⟨r, rfl, ⟨b, M'⟩, rfl, h⟩ := h
  refine ⟨b, M', rfl, ?_⟩
  rcases h with ⟨v, S', rfl, h⟩ | ⟨e, S', x, rfl, h⟩
  · exact Or.inl ⟨v, S', rfl, h⟩
  · exact Or.inr ⟨e, S', x, rfl, h⟩
theorem pr_ok {V U : Type} {cv : V → Int64} {cm : U → Int64} {hn : Nat → Option Int32} {Q : zz_St → zz_St → Prop} {v : V} {S' : zz_St} {b : U} {M' : zz_St} (h0 : zz_gi M' 0 = 0) (h1 : cv v = cm b) (h2 : Q S' M') : pr_rel cv cm hn Q (Sum.inl (v, S')) (b, M') := Or.inl ⟨v, S', rfl, h0, h1, h2⟩
theorem pr_th {V U : Type} {cv : V → Int64} {cm : U → Int64} {hn : Nat → Option Int32} {Q : zz_St → zz_St → Prop} {e : Nat} {x : Int32} {S' : zz_St} {b : U} {M' : zz_St} (h0 : hn e = some x) (h1 : x ≠ 0) (h2 : zz_gi M' 0 = x) (h3 : Q S' M') : pr_rel (V := V) cv cm hn Q (Sum.inr (e, S')) (b, M') := Or.inr ⟨e, S', x, rfl, h0, h1, h2, h3⟩
theorem pr_net {nn N z : Nat} {S M : zz_St} (hnn : nn ≤ 12) (h0 : zz_gi S 0 = nI nn) (h4 : zz_gi M 4 = nI nn) (p : Int32) :
    (∃ n, n < nn ∧ p = nI n ∧ zf_X6_netAt N z S p = some (Sum.inl (n, S)) ∧ zf_X7_isNet N M p = some 1) ∨ (zf_X6_netAt N z S p = some (Sum.inr (1, S)) ∧ zf_X7_isNet N M p = some 0) := by
  by_cases hp : p < 0
  · refine Or.inr ⟨?_, ?_⟩
    · apply pz_eq_of
      unfold zf_X6_netAt
      simp only [pz_T_ite, pz_T_gd, pz_T_jn1, pz_T_jn2, pz_T_some, pz_T_let, pz_T_b1, pz_T_b2]
      exact ⟨fun _ => trivial, fun h => absurd hp h⟩
    · apply pz_eq_of
      unfold zf_X7_isNet
      simp only [pz_T_ite, pz_T_gd, pz_T_jn1, pz_T_jn2, pz_T_some, pz_T_let, pz_T_b1, pz_T_b2]
      exact ⟨fun _ => ⟨by decide, trivial⟩, fun h => absurd hp h⟩
  · obtain ⟨n, hn, rfl⟩ := nI_of hp
    by_cases hl : n < nn
    · refine Or.inl ⟨n, hl, rfl, ?_, ?_⟩
      · apply pz_eq_of
        unfold zf_X6_netAt
        simp only [pz_T_ite, pz_T_gd, pz_T_jn1, pz_T_jn2, pz_T_some, pz_T_let, pz_T_b1, pz_T_b2]
        simp (disch := omega) only [h0, pz_ltI, pz_in, nI_clampI]
        exact ⟨fun h => absurd h hp, fun _ => ⟨fun _ => ⟨by omega, trivial⟩, fun h => absurd hl h⟩⟩
      · apply pz_eq_of
        unfold zf_X7_isNet
        simp only [pz_T_ite, pz_T_gd, pz_T_jn1, pz_T_jn2, pz_T_some, pz_T_let, pz_T_b1, pz_T_b2]
        simp (disch := omega) only [h4, pz_leI]
        exact ⟨fun h => absurd h hp, fun _ => ⟨fun h => by omega, fun _ => ⟨by decide, trivial⟩⟩⟩
    · refine Or.inr ⟨?_, ?_⟩
      · apply pz_eq_of
        unfold zf_X6_netAt
        simp only [pz_T_ite, pz_T_gd, pz_T_jn1, pz_T_jn2, pz_T_some, pz_T_let, pz_T_b1, pz_T_b2]
        simp (disch := omega) only [h0, pz_ltI, pz_in, nI_clampI]
        exact ⟨fun h => trivial, fun _ => ⟨fun h => absurd h hl, fun _ => trivial⟩⟩
      · apply pz_eq_of
        unfold zf_X7_isNet
        simp only [pz_T_ite, pz_T_gd, pz_T_jn1, pz_T_jn2, pz_T_some, pz_T_let, pz_T_b1, pz_T_b2]
        simp (disch := omega) only [h4, pz_leI]
        exact ⟨fun h => absurd h hp, fun _ => ⟨fun h => ⟨by decide, trivial⟩, fun h => absurd (by omega) h⟩⟩
theorem pr_cell_lt {W H D c : Nat} {p1 p2 p3 : Int32} (hs : pz_siz W H D) (h : pz_cell W H D p1 p2 p3 = some c) : c < (W * H * D) := by
  obtain ⟨w0, h0, d0, ha, hz, hw, hh, hd⟩ := hs
  unfold pz_cell at h
  split at h
  · rename_i hq
    obtain ⟨q1, q2, q3, q4, q5, q6⟩ := hq
    cases h
    obtain ⟨e1, b1⟩ := pz_ofcl q1
    obtain ⟨e2, b2⟩ := pz_ofcl q3
    obtain ⟨e3, b3⟩ := pz_ofcl q5
    rw [e1, pz_ltI b1 (by omega)] at q2
    rw [e2, pz_ltI b2 (by omega)] at q4
    rw [e3, pz_ltI b3 (by omega)] at q6
    exact pz_q_lt q4 q6 q2
  · cases h
theorem pr_c_cellAt {W H D N z : Nat} {S : zz_St} (hg : pz_cgeo W H D S) (p1 p2 p3 : Int32) : zf_X6_cellAt N z S p1 p2 p3 = match pz_cell W H D p1 p2 p3 with
    | some c => some (Sum.inl (nI c, S))
    | none => some (Sum.inr (1, S)) := by
  obtain ⟨g2, g3, g4, -, -⟩ := hg
  unfold zf_X6_cellAt zf_X1_has zf_X1_numberOf pz_cell
  have hbl0 : zz_bl 0 = true := by decide
  have hbl1 : zz_bl 1 = true := by decide
  have h10 : ¬ (1 : Int32) = 0 := by decide
  simp only [zz_b1, zz_jn1, zz_gd, g2, g3, g4, pz_nle_lt, hbl0, hbl1, if_true]
  by_cases h1 : p1 < 0
  · simp [h1]
  by_cases h2 : p1 < nI D
  · by_cases h3 : p2 < 0
    · simp [h1, h2, h3]
    by_cases h4 : p2 < nI W
    · by_cases h5 : p3 < 0
      · simp [h1, h2, h3, h4, h5]
      by_cases h6 : p3 < nI H
      · simp only [h1, h2, h3, h4, h5, h6, not_true, not_false_iff, and_self, if_true, if_false, h10]
        obtain ⟨e1, _⟩ := pz_ofcl h1
        obtain ⟨e2, _⟩ := pz_ofcl h3
        obtain ⟨e3, _⟩ := pz_ofcl h5
        unfold pz_q
        generalize p1.toNatClampNeg = a at *
        generalize p2.toNatClampNeg = b at *
        generalize p3.toNatClampNeg = c at *
        rw [e1, e2, e3, pk_mul, nI_add, pk_mul, nI_add]
      · simp [h1, h2, h3, h4, h5, h6]
    · simp [h1, h2, h3, h4]
  · simp [h1, h2]
theorem pr_cell {W H D N : Nat} {S M : zz_St} (hs : pz_siz W H D) (hg : pz_cgeo W H D S) (hm : pz_mgeo W H D M) (p1 p2 p3 : Int32) :
    (∃ c, c < (W * H * D) ∧ zf_X6_cellAt N (W * H * D) S p1 p2 p3 = some (Sum.inl (nI c, S)) ∧ zf_X7_cell N M p1 p2 p3 = some (nI c)) ∨ (zf_X6_cellAt N (W * H * D) S p1 p2 p3 = some (Sum.inr (1, S)) ∧ zf_X7_cell N M p1 p2 p3 = some (-1)) := by
  have h1 := pr_c_cellAt (N := N) (z := (W * H * D)) hg p1 p2 p3
  have h2 := pz_m_cell (N := N) hm p1 p2 p3
  cases hc : pz_cell W H D p1 p2 p3 with
  | some c =>
    rw [hc] at h1 h2
    exact Or.inl ⟨c, pr_cell_lt hs hc, h1, h2⟩
  | none =>
    rw [hc] at h1 h2
    exact Or.inr ⟨h1, h2⟩
theorem pr_10 : ((1 : Int32) = 0) = False := by simp
theorem pr_m11 : ((-1 : Int32) = -1) = True := by simp
theorem pr_o_costOf {W H D nn q : Nat} {pc : Nat → Nat} {pn : Nat → Nat → Nat} {N : Nat} (hN : 2000 ≤ N) {S M : zz_St} (hR : pr_R W H D nn q pc pn 0 (fun _ => False) S M) (p : Int32) : pr_mo (fun v : Int64 => v) (fun v : Int64 => v) zz_h1 (pr_I W H D q) (zf_X6_costOf N (W * H * D) S p) (zf_X7_costOf N M p) := by
  have hA := hR.2.1
  have hnn := hA.2.2.1
  apply pr_mo_of
  unfold zf_X6_costOf
  rcases pr_net (N := N) (z := (W * H * D)) hnn hA.2.2.2.1 hA.2.2.2.2.1 p with ⟨n, hn, rfl, h1, h2⟩ | ⟨h1, h2⟩
  · rw [pz_T_bxl h1]
    obtain ⟨d1, ⟨d2, d3⟩, d4, d5, d6, d7⟩ := hR.2.2.2.2.1 n (by omega)
    unfold zf_X7_costOf
    simp only [pz_T_ite, pz_T_gd, pz_T_jn1, pz_T_jn2, pz_T_some, pz_T_let, pz_T_b1, pz_T_b2]
    simp only [pz_T_eq h2]
    simp (disch := omega) only [pz_gi_si, pz_gi_si_n, pz_gi_sl, pz_gi_sa, pz_gi_sA, pz_gi_sp, pz_gl_si, pz_gl_sl, pz_gl_sl_n, pz_gl_sa, pz_gl_sA, pz_gl_sp, pz_ga_si, pz_ga_sl, pz_ga_sa, pz_ga_sa_n, pz_ga_sA, pz_ga_sp, pz_gA_si, pz_gA_sl, pz_gA_sa, pz_gA_sA, pz_gA_sA_n, pz_gA_sp, pz_gp_si, pz_gp_sl, pz_gp_sa, pz_gp_sA, pz_gp_sp, pz_gp_sp_n, pz_in, nI_clampI, d2, d4, pr_10]
    have hn12 : n < 12 := by omega
    by_cases h : zz_ga S 22 n = 0
    · simp [h, hn12]
      exact pr_ok pz_gi_si rfl (pr_I_th hR (Nat.le_refl _))
    · simp [h, hn12]
      exact pr_ok pz_gi_si rfl (pr_I_th hR (Nat.le_refl _))
  · rw [pz_T_bxr h1]
    unfold zf_X7_costOf
    simp only [pz_T_ite, pz_T_gd, pz_T_jn1, pz_T_jn2, pz_T_some, pz_T_let, pz_T_b1, pz_T_b2]
    simp only [pz_T_eq h2]
    simp (disch := omega) only [pz_gi_si, pz_gi_si_n, pz_gi_sl, pz_gi_sa, pz_gi_sA, pz_gi_sp, pz_gl_si, pz_gl_sl, pz_gl_sl_n, pz_gl_sa, pz_gl_sA, pz_gl_sp, pz_ga_si, pz_ga_sl, pz_ga_sa, pz_ga_sa_n, pz_ga_sA, pz_ga_sp, pz_gA_si, pz_gA_sl, pz_gA_sa, pz_gA_sA, pz_gA_sA_n, pz_gA_sp, pz_gp_si, pz_gp_sl, pz_gp_sa, pz_gp_sA, pz_gp_sp, pz_gp_sp_n, pr_10]
    exact ⟨fun _ => ⟨fun h => h.elim, fun _ => pr_th rfl (by decide) pz_gi_si (pr_I_th hR (Nat.le_refl _))⟩, fun h => absurd trivial h⟩
theorem pr_o_ripped {W H D nn q : Nat} {pc : Nat → Nat} {pn : Nat → Nat → Nat} {N : Nat} (hN : 2000 ≤ N) {S M : zz_St} (hR : pr_R W H D nn q pc pn 0 (fun _ => False) S M) (p : Int32) : pr_mo Int32.toInt64 Int32.toInt64 zz_h1 (pr_I W H D q) (zf_X6_ripped N (W * H * D) S p) (zf_X7_ripped N M p) := by
  have hA := hR.2.1
  have hnn := hA.2.2.1
  apply pr_mo_of
  unfold zf_X6_ripped
  rcases pr_net (N := N) (z := (W * H * D)) hnn hA.2.2.2.1 hA.2.2.2.2.1 p with ⟨n, hn, rfl, h1, h2⟩ | ⟨h1, h2⟩
  · rw [pz_T_bxl h1]
    obtain ⟨d1, ⟨d2, d3⟩, d4, d5, d6, d7⟩ := hR.2.2.2.2.1 n (by omega)
    unfold zf_X7_ripped
    simp only [pz_T_ite, pz_T_gd, pz_T_jn1, pz_T_jn2, pz_T_some, pz_T_let, pz_T_b1, pz_T_b2]
    simp only [pz_T_eq h2]
    simp (disch := omega) only [pz_gi_si, pz_gi_si_n, pz_gi_sl, pz_gi_sa, pz_gi_sA, pz_gi_sp, pz_gl_si, pz_gl_sl, pz_gl_sl_n, pz_gl_sa, pz_gl_sA, pz_gl_sp, pz_ga_si, pz_ga_sl, pz_ga_sa, pz_ga_sa_n, pz_ga_sA, pz_ga_sp, pz_gA_si, pz_gA_sl, pz_gA_sa, pz_gA_sA, pz_gA_sA_n, pz_gA_sp, pz_gp_si, pz_gp_sl, pz_gp_sa, pz_gp_sA, pz_gp_sp, pz_gp_sp_n, pz_in, nI_clampI, d5, pr_10]
    exact ⟨fun h' => h'.elim, fun _ => ⟨fun _ => ⟨by omega, pr_ok pz_gi_si rfl (pr_I_th hR (Nat.le_refl _))⟩, fun h' => absurd trivial h'⟩⟩
  · rw [pz_T_bxr h1]
    unfold zf_X7_ripped
    simp only [pz_T_ite, pz_T_gd, pz_T_jn1, pz_T_jn2, pz_T_some, pz_T_let, pz_T_b1, pz_T_b2]
    simp only [pz_T_eq h2]
    simp (disch := omega) only [pz_gi_si, pz_gi_si_n, pz_gi_sl, pz_gi_sa, pz_gi_sA, pz_gi_sp, pz_gl_si, pz_gl_sl, pz_gl_sl_n, pz_gl_sa, pz_gl_sA, pz_gl_sp, pz_ga_si, pz_ga_sl, pz_ga_sa, pz_ga_sa_n, pz_ga_sA, pz_ga_sp, pz_gA_si, pz_gA_sl, pz_gA_sa, pz_gA_sA, pz_gA_sA_n, pz_gA_sp, pz_gp_si, pz_gp_sl, pz_gp_sa, pz_gp_sA, pz_gp_sp, pz_gp_sp_n, pr_10]
    exact ⟨fun _ => ⟨fun h => h.elim, fun _ => pr_th rfl (by decide) pz_gi_si (pr_I_th hR (Nat.le_refl _))⟩, fun h => absurd trivial h⟩
theorem pr_o_joined {W H D nn q : Nat} {pc : Nat → Nat} {pn : Nat → Nat → Nat} {N : Nat} (hN : 2000 ≤ N) {S M : zz_St} (hR : pr_R W H D nn q pc pn 0 (fun _ => False) S M) (p : Int32) : pr_mo zz_cvZ zz_cvZ zz_h1 (pr_I W H D q) (zf_X6_joined N (W * H * D) S p) (zf_X7_joined N M p) := by
  have hA := hR.2.1
  have hnn := hA.2.2.1
  apply pr_mo_of
  unfold zf_X6_joined
  rcases pr_net (N := N) (z := (W * H * D)) hnn hA.2.2.2.1 hA.2.2.2.2.1 p with ⟨n, hn, rfl, h1, h2⟩ | ⟨h1, h2⟩
  · rw [pz_T_bxl h1]
    obtain ⟨d1, ⟨d2, d3⟩, d4, d5, d6, d7⟩ := hR.2.2.2.2.1 n (by omega)
    have hbl : zz_bl (zz_ga S 22 n) = true := by
      rcases d3 with h | h <;> rw [h] <;> decide
    unfold zf_X7_joined
    simp only [pz_T_ite, pz_T_gd, pz_T_jn1, pz_T_jn2, pz_T_some, pz_T_let, pz_T_b1, pz_T_b2]
    simp only [pz_T_eq h2]
    simp (disch := omega) only [pz_gi_si, pz_gi_si_n, pz_gi_sl, pz_gi_sa, pz_gi_sA, pz_gi_sp, pz_gl_si, pz_gl_sl, pz_gl_sl_n, pz_gl_sa, pz_gl_sA, pz_gl_sp, pz_ga_si, pz_ga_sl, pz_ga_sa, pz_ga_sa_n, pz_ga_sA, pz_ga_sp, pz_gA_si, pz_gA_sl, pz_gA_sa, pz_gA_sA, pz_gA_sA_n, pz_gA_sp, pz_gp_si, pz_gp_sl, pz_gp_sa, pz_gp_sA, pz_gp_sp, pz_gp_sp_n, pz_in, nI_clampI, d2, pr_10, hbl, pz_bl0, pz_bl1, true_and]
    rcases d3 with h | h
    · rw [h]
      simp [show n < 12 by omega]
      exact pr_ok pz_gi_si rfl (pr_I_th hR (Nat.le_refl _))
    · rw [h]
      simp [show n < 12 by omega]
      exact pr_ok pz_gi_si rfl (pr_I_th hR (Nat.le_refl _))
  · rw [pz_T_bxr h1]
    unfold zf_X7_joined
    simp only [pz_T_ite, pz_T_gd, pz_T_jn1, pz_T_jn2, pz_T_some, pz_T_let, pz_T_b1, pz_T_b2]
    simp only [pz_T_eq h2]
    simp (disch := omega) only [pz_gi_si, pz_gi_si_n, pz_gi_sl, pz_gi_sa, pz_gi_sA, pz_gi_sp, pz_gl_si, pz_gl_sl, pz_gl_sl_n, pz_gl_sa, pz_gl_sA, pz_gl_sp, pz_ga_si, pz_ga_sl, pz_ga_sa, pz_ga_sa_n, pz_ga_sA, pz_ga_sp, pz_gA_si, pz_gA_sl, pz_gA_sa, pz_gA_sA, pz_gA_sA_n, pz_gA_sp, pz_gp_si, pz_gp_sl, pz_gp_sa, pz_gp_sA, pz_gp_sp, pz_gp_sp_n, pr_10]
    refine ⟨fun _ => ⟨fun h => h.elim, fun _ => ⟨by decide, pr_th rfl (by decide) pz_gi_si (pr_I_th hR (Nat.le_refl _))⟩⟩, fun h => absurd trivial h⟩
theorem pr_o_history {W H D nn q : Nat} {pc : Nat → Nat} {pn : Nat → Nat → Nat} {N : Nat} (hN : 2000 ≤ N) {S M : zz_St} (hR : pr_R W H D nn q pc pn 0 (fun _ => False) S M) (hq : q ≤ 1000000000) (p1 p2 p3 : Int32) : pr_mo (fun v : Int64 => v) (fun v : Int64 => v) zz_h1 (pr_I W H D q) (zf_X6_history N (W * H * D) S p1 p2 p3) (zf_X7_history N M p1 p2 p3) := by
  have hA := hR.2.1
  have hz := hR.1.2.2.2.2.1
  apply pr_mo_of
  unfold zf_X6_history
  rcases pr_cell (N := N) hR.1 hA.1 hA.2.1 p1 p2 p3 with ⟨c, hc, h1, h2⟩ | ⟨h1, h2⟩
  · rw [pz_T_bxl h1]
    obtain ⟨-, e1, e2⟩ := pr_hist hR hq (j := 0) hc
    unfold zf_X7_history
    simp only [pz_T_ite, pz_T_gd, pz_T_jn1, pz_T_jn2, pz_T_some, pz_T_let, pz_T_b1, pz_T_b2]
    simp only [pz_T_eq h2]
    simp (disch := omega) only [pz_gi_si, pz_gi_si_n, pz_gi_sl, pz_gi_sa, pz_gi_sA, pz_gi_sp, pz_gl_si, pz_gl_sl, pz_gl_sl_n, pz_gl_sa, pz_gl_sA, pz_gl_sp, pz_ga_si, pz_ga_sl, pz_ga_sa, pz_ga_sa_n, pz_ga_sA, pz_ga_sp, pz_gA_si, pz_gA_sl, pz_gA_sa, pz_gA_sA, pz_gA_sA_n, pz_gA_sp, pz_gp_si, pz_gp_sl, pz_gp_sa, pz_gp_sA, pz_gp_sp, pz_gp_sp_n, pz_in, nI_clampI, pz_nm1, e1, e2]
    exact ⟨hc, fun h => h.elim, fun _ => ⟨fun _ => ⟨by omega, pr_ok pz_gi_si rfl (pr_I_th hR (Nat.le_refl _))⟩, fun h => absurd trivial h⟩⟩
  · rw [pz_T_bxr h1]
    unfold zf_X7_history
    simp only [pz_T_ite, pz_T_gd, pz_T_jn1, pz_T_jn2, pz_T_some, pz_T_let, pz_T_b1, pz_T_b2]
    simp only [pz_T_eq h2]
    simp (disch := omega) only [pz_gi_si, pz_gi_si_n, pz_gi_sl, pz_gi_sa, pz_gi_sA, pz_gi_sp, pz_gl_si, pz_gl_sl, pz_gl_sl_n, pz_gl_sa, pz_gl_sA, pz_gl_sp, pz_ga_si, pz_ga_sl, pz_ga_sa, pz_ga_sa_n, pz_ga_sA, pz_ga_sp, pz_gA_si, pz_gA_sl, pz_gA_sa, pz_gA_sA, pz_gA_sA_n, pz_gA_sp, pz_gp_si, pz_gp_sl, pz_gp_sa, pz_gp_sA, pz_gp_sp, pz_gp_sp_n, pr_10]
    exact ⟨fun _ => ⟨fun h => h.elim, fun _ => pr_th rfl (by decide) pz_gi_si (pr_I_th hR (Nat.le_refl _))⟩, fun h => absurd trivial h⟩
theorem pr_R_bar {W H D nn q : Nat} {pc : Nat → Nat} {pn : Nat → Nat → Nat} {k : Nat} {T : Nat → Prop} {S M : zz_St} (hR : pr_R W H D nn q pc pn k T S M) {c : Nat} {v : Int32} : pr_R W H D nn q pc pn k T (zz_sa S 8 (upd (zz_ga S 8) c v)) (zz_sa M 5 (upd (zz_ga M 5) c v)) := by
  obtain ⟨hs, hA, hB, hC, hD, hE, hF, hG⟩ := hR
  unfold pr_R pr_A pr_C pr_D pr_E pr_F pr_G pr_G1 pz_cgeo pz_mgeo at *
  simp (disch := omega) only [pz_gi_si, pz_gi_si_n, pz_gi_sl, pz_gi_sa, pz_gi_sA, pz_gi_sp, pz_gl_si, pz_gl_sl, pz_gl_sl_n, pz_gl_sa, pz_gl_sA, pz_gl_sp, pz_ga_si, pz_ga_sl, pz_ga_sa, pz_ga_sa_n, pz_ga_sA, pz_ga_sp, pz_gA_si, pz_gA_sl, pz_gA_sa, pz_gA_sA, pz_gA_sA_n, pz_gA_sp, pz_gp_si, pz_gp_sl, pz_gp_sa, pz_gp_sA, pz_gp_sp, pz_gp_sp_n]
  refine ⟨hs, hA, ?_, hC, hD, hE, hF, hG⟩
  intro x hx
  obtain ⟨b1, b2⟩ := hB x hx
  simp (disch := omega) only [pz_gi_si, pz_gi_si_n, pz_gi_sl, pz_gi_sa, pz_gi_sA, pz_gi_sp, pz_gl_si, pz_gl_sl, pz_gl_sl_n, pz_gl_sa, pz_gl_sA, pz_gl_sp, pz_ga_si, pz_ga_sl, pz_ga_sa, pz_ga_sa_n, pz_ga_sA, pz_ga_sp, pz_gA_si, pz_gA_sl, pz_gA_sa, pz_gA_sA, pz_gA_sA_n, pz_gA_sp, pz_gp_si, pz_gp_sl, pz_gp_sa, pz_gp_sA, pz_gp_sp, pz_gp_sp_n]
  refine ⟨?_, b2⟩
  by_cases e1 : x = c
  · subst e1; rw [pk_us, pk_us]
  · rw [pk_un e1, pk_un e1]; exact b1
theorem pr_o_bar {W H D nn q : Nat} {pc : Nat → Nat} {pn : Nat → Nat → Nat} {N : Nat} (hN : 2000 ≤ N) {S M : zz_St} (hR : pr_R W H D nn q pc pn 0 (fun _ => False) S M) (p1 p2 p3 : Int32) : pr_mo zz_cvZ zz_cvZ zz_h1 (pr_I W H D q) (zf_X6_bar N (W * H * D) S p1 p2 p3) (zf_X7_bar N M p1 p2 p3) := by
  have hA := hR.2.1
  have hz := hR.1.2.2.2.2.1
  apply pr_mo_of
  unfold zf_X6_bar
  rcases pr_cell (N := N) hR.1 hA.1 hA.2.1 p1 p2 p3 with ⟨c, hc, h1, h2⟩ | ⟨h1, h2⟩
  · rw [pz_T_bxl h1]
    have e1 := (hR.2.2.1 c hc).1
    have e2 := (hR.2.2.2.2.2.2.1 c hc).1 (fun h => h)
    unfold zf_X7_bar
    simp only [pz_T_ite, pz_T_gd, pz_T_jn1, pz_T_jn2, pz_T_some, pz_T_let, pz_T_b1, pz_T_b2]
    simp only [pz_T_eq h2]
    simp (disch := omega) only [pz_gi_si, pz_gi_si_n, pz_gi_sl, pz_gi_sa, pz_gi_sA, pz_gi_sp, pz_gl_si, pz_gl_sl, pz_gl_sl_n, pz_gl_sa, pz_gl_sA, pz_gl_sp, pz_ga_si, pz_ga_sl, pz_ga_sa, pz_ga_sa_n, pz_ga_sA, pz_ga_sp, pz_gA_si, pz_gA_sl, pz_gA_sa, pz_gA_sA, pz_gA_sA_n, pz_gA_sp, pz_gp_si, pz_gp_sl, pz_gp_sa, pz_gp_sA, pz_gp_sp, pz_gp_sp_n, pz_in, nI_clampI, pz_nm1, e1, e2, pz_nar1]
    have hc4 : c < 1024 := by omega
    by_cases b1 : zz_ga S 8 c = 0
    · by_cases b2 : zz_ga S 10 c = -1
      · simp [hc, hc4, b1, b2]
        exact pr_ok (show zz_gi (zz_si M 0 0) 0 = 0 from pz_gi_si) rfl ⟨nn, pc, pn, pr_R_bar (pr_R_th hR)⟩
      · simp [hc, hc4, b1, b2]
        exact pr_ok pz_gi_si rfl (pr_I_th hR (Nat.le_refl _))
    · simp [hc, hc4, b1]
      exact pr_ok pz_gi_si rfl (pr_I_th hR (Nat.le_refl _))
  · rw [pz_T_bxr h1]
    unfold zf_X7_bar
    simp only [pz_T_ite, pz_T_gd, pz_T_jn1, pz_T_jn2, pz_T_some, pz_T_let, pz_T_b1, pz_T_b2]
    simp only [pz_T_eq h2]
    simp (disch := omega) only [pz_gi_si, pz_gi_si_n, pz_gi_sl, pz_gi_sa, pz_gi_sA, pz_gi_sp, pz_gl_si, pz_gl_sl, pz_gl_sl_n, pz_gl_sa, pz_gl_sA, pz_gl_sp, pz_ga_si, pz_ga_sl, pz_ga_sa, pz_ga_sa_n, pz_ga_sA, pz_ga_sp, pz_gA_si, pz_gA_sl, pz_gA_sa, pz_gA_sA, pz_gA_sA_n, pz_gA_sp, pz_gp_si, pz_gp_sl, pz_gp_sa, pz_gp_sA, pz_gp_sp, pz_gp_sp_n, pr_10]
    exact ⟨fun _ => ⟨fun h => h.elim, fun _ => pr_th rfl (by decide) pz_gi_si (pr_I_th hR (Nat.le_refl _))⟩, fun h => absurd trivial h⟩

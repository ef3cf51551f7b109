theorem pr_call {V U : Type} {cv : V → Int64} {cm : U → Int64} {hn : Nat → Option Int32} {Q : zz_St → zz_St → Prop} {F : Option ((V × zz_St) ⊕ (Nat × zz_St))} {G : Option (U × zz_St)} (h : pr_mo cv cm hn Q F G) (S M : zz_St) (o : Nat → Int64) :
    ∃ x S' o' b M', zz_lift (zz_upH (S, M, o)) (zz_LH cv hn F o) = some (x, (S', M, o')) ∧ zz_lift (zz_upM (S', M, o')) G = some (b, (S', M', o')) ∧ zz_gi M' 0 = x ∧ (x = 0 → o' 0 = cm b) ∧ Q S' M' := by
  obtain ⟨b, M', rfl, h⟩ := h
  rcases h with ⟨v, S', rfl, h0, h1, h2⟩ | ⟨e, S', x, rfl, h0, h1, h2, h3⟩
  · exact ⟨0, S', vp_updL o (0 : Int32).toNatClampNeg (cv v), b, M', rfl, rfl, h0, fun _ => by rw [show (0 : Int32).toNatClampNeg = 0 from by decide, pk_uLs]; exact h1, h2⟩
  · refine ⟨x, S', o, b, M', ?_, rfl, h2, fun h => absurd h h1, h3⟩
    unfold zz_LH
    simp only [h0]
    rfl
theorem pr_thr {N : Nat} {S M : zz_St} {o : Nat → Int64} : zz_lift (zz_upM (S, M, o)) (zz_ro2 (zf_X7_thrown N M) M) = some (zz_gi M 0, (S, M, o)) := rfl
theorem pr_turn1 {W H D N L t : Nat} (hN : 2000 ≤ N) {xs : Nat → Int32} (hL : L ≤ 2564) {rc : Int32 → zz_LS → Option Int32} {S M : zz_St} {o : Nat → Int64} (hI : pr_I W H D (1600 * t) S M) (ht : 4 + 5 * t ≤ 2569)
    (hrec : 4 + 5 * t + 5 ≤ L → ∀ S' M' o', pr_I W H D (1600 * (t + 1)) S' M' → pz_T (rc (nI (4 + 5 * (t + 1))) (S', M', o')) (fun v => v = 1)) :
    pz_T (zf_law_turn N (W * H * D) L xs rc (nI (4 + 5 * t)) (S, M, o)) (fun v => v = 1) := by
  obtain ⟨nn, pc, pn, hR⟩ := hI
  have hexit : (nI L - (5 : Int32) < nI (4 + 5 * t)) = (L < 4 + 5 * t + 5) := by
    by_cases h5 : 5 ≤ L
    · rw [show nI L - (5 : Int32) = nI (L - 5) from pk_sub (b := 5) h5, pz_ltI (by omega) (by omega)]
      apply propext
      omega
    · have h0 : nI L - (5 : Int32) < 0 := by
        rcases (show L = 0 ∨ L = 1 ∨ L = 2 ∨ L = 3 ∨ L = 4 by omega) with rfl | rfl | rfl | rfl | rfl <;> decide
      have h1 : nI L - (5 : Int32) < nI (4 + 5 * t) := by
        rw [Int32.lt_iff_toInt_lt] at h0 ⊢
        rw [nI_toInt (by omega)]
        have : (0 : Int32).toInt = 0 := by decide
        omega
      apply propext
      exact ⟨fun _ => by omega, fun _ => h1⟩
  by_cases hL5 : L < 4 + 5 * t + 5
  · unfold zf_law_turn
    rw [pz_T_ite, hexit]
    exact ⟨fun _ => pz_T_some.mpr rfl, fun h => absurd hL5 h⟩
  have hin0 : zz_in (nI (4 + 5 * t)) L = true := (pz_in (by omega)).mpr (by omega)
  have hin1 : zz_in (nI (4 + 5 * t) + ((1 : Int32))) L = true := by rw [nI_1]; exact (pz_in (by omega)).mpr (by omega)
  have hin2 : zz_in (nI (4 + 5 * t) + ((2 : Int32))) L = true := by rw [show nI (4 + 5 * t) + ((2 : Int32)) = nI (4 + 5 * t + 2) from nI_add _ 2]; exact (pz_in (by omega)).mpr (by omega)
  have hin3 : zz_in (nI (4 + 5 * t) + ((3 : Int32))) L = true := by rw [show nI (4 + 5 * t) + ((3 : Int32)) = nI (4 + 5 * t + 3) from nI_add _ 3]; exact (pz_in (by omega)).mpr (by omega)
  have hin4 : zz_in (nI (4 + 5 * t) + ((4 : Int32))) L = true := by rw [show nI (4 + 5 * t) + ((4 : Int32)) = nI (4 + 5 * t + 4) from nI_add _ 4]; exact (pz_in (by omega)).mpr (by omega)
  have hin01 : zz_in ((0 : Int32)) 1 = true := by decide
  have h10 : ¬ (1 : Int32) = 0 := by decide
  have hgo : ∀ S' M' o' q', q' ≤ 1600 * t + 1600 → pr_I W H D q' S' M' → pz_T (rc (nI (4 + 5 * t) + (5 : Int32)) (S', M', o')) (fun v => v = 1) := by
    rintro S' M' o' q' hq' ⟨nn', pc', pn', hR'⟩
    rw [show nI (4 + 5 * t) + (5 : Int32) = nI (4 + 5 * (t + 1)) from nI_add (4 + 5 * t) 5]
    exact hrec (by omega) S' M' o' ⟨nn', pc', pn', pr_R_q hR' (by omega)⟩
  have hb : ∀ (S' M' : zz_St) (o' : Nat → Int64) (q' : Nat) (x b : Int32), q' ≤ 1600 * t + 1600 → pr_I W H D q' S' M' → zz_gi M' 0 = x → (x = 0 → o' 0 = zz_cvZ b) → (zz_gi M' 0 = x → (x = 0 → zz_in ((0 : Int32)) 1 = true ∧ (b = 0 → (lg_cmp (o' ((0 : Int32)).toNatClampNeg) ((0 : Int64)) = 0 → pz_T (rc (nI (4 + 5 * t) + (5 : Int32)) (S', M', o')) (fun v => v = 1)) ∧ (¬ lg_cmp (o' ((0 : Int32)).toNatClampNeg) ((0 : Int64)) = 0 → (0 : Int32) = 1)) ∧ (¬ b = 0 → (lg_cmp (o' ((0 : Int32)).toNatClampNeg) ((1 : Int64)) = 0 → pz_T (rc (nI (4 + 5 * t) + (5 : Int32)) (S', M', o')) (fun v => v = 1)) ∧ (¬ lg_cmp (o' ((0 : Int32)).toNatClampNeg) ((1 : Int64)) = 0 → (0 : Int32) = 1))) ∧ (¬ x = 0 → pz_T (rc (nI (4 + 5 * t) + (5 : Int32)) (S', M', o')) (fun v => v = 1))) ∧ (¬ zz_gi M' 0 = x → (0 : Int32) = 1) := by
    intro S' M' o' q' x b hq' hI' hx ho
    have hg := hgo S' M' o' q' hq' hI'
    refine ⟨fun _ => ⟨fun h0 => ⟨hin01, fun hb => ⟨fun _ => hg, fun hne => ?_⟩, fun hb => ⟨fun _ => hg, fun hne => ?_⟩⟩, fun _ => hg⟩, fun hne => absurd hx hne⟩
    · exfalso
      apply hne
      rw [pz_l_eq, pz_zcl, ho h0]
      unfold zz_cvZ
      exact if_pos hb
    · exfalso
      apply hne
      rw [pz_l_eq, pz_zcl, ho h0]
      unfold zz_cvZ
      exact if_neg hb
  have hi : ∀ (S' M' : zz_St) (o' : Nat → Int64) (q' : Nat) (x : Int32) (y : Int64), q' ≤ 1600 * t + 1600 → pr_I W H D q' S' M' → zz_gi M' 0 = x → (x = 0 → o' 0 = y) → (zz_gi M' 0 = x → (x = 0 → zz_in ((0 : Int32)) 1 = true ∧ (lg_cmp (o' ((0 : Int32)).toNatClampNeg) y = 0 → pz_T (rc (nI (4 + 5 * t) + (5 : Int32)) (S', M', o')) (fun v => v = 1)) ∧ (¬ lg_cmp (o' ((0 : Int32)).toNatClampNeg) y = 0 → (0 : Int32) = 1)) ∧ (¬ x = 0 → pz_T (rc (nI (4 + 5 * t) + (5 : Int32)) (S', M', o')) (fun v => v = 1))) ∧ (¬ zz_gi M' 0 = x → (0 : Int32) = 1) := by
    intro S' M' o' q' x y hq' hI' hx ho
    have hg := hgo S' M' o' q' hq' hI'
    refine ⟨fun _ => ⟨fun h0 => ⟨hin01, fun _ => hg, fun hne => ?_⟩, fun _ => hg⟩, fun hne => absurd hx hne⟩
    exfalso
    apply hne
    rw [pz_l_eq, pz_zcl, ho h0]
  unfold zf_law_turn
  simp only [pz_T_ite, pz_T_gd, pz_T_jn1, pz_T_jn2, pz_T_some, pz_T_let, pz_T_b1, pz_T_b2]
  rw [hexit]
  refine ⟨fun h => absurd h hL5, fun _ => ⟨hin0, ?_⟩⟩
  refine ⟨fun _ => ?_, fun _ => ?_⟩
  · obtain ⟨x, S1, o1, b, M1, hc, hg, hx, ho, hQ⟩ := pr_call (pr_o_bar hN hR (xs (nI (4 + 5 * t) + ((1 : Int32))).toNatClampNeg) (xs (nI (4 + 5 * t) + ((2 : Int32))).toNatClampNeg) (xs (nI (4 + 5 * t) + ((3 : Int32))).toNatClampNeg)) S M o
    refine ⟨hin1, hin2, hin3, (pz_T_eq hc).mpr ⟨hin1, hin2, hin3, (pz_T_eq hg).mpr ((pz_T_eq pr_thr).mpr ?_)⟩⟩
    exact hb S1 M1 o1 (1600 * t) x b (by omega) hQ hx ho
  refine ⟨fun _ => ?_, fun _ => ?_⟩
  · obtain ⟨v, S1, M1, hc, hg, hQ⟩ := pr_o_net hN hR
    have hc1 : zz_lift (zz_upC (S, M, o)) (zf_X6_net N (W * H * D) S) = some (v, (S1, M, o)) := by rw [hc]; rfl
    have hg1 : zz_lift (zz_upM (S1, M, o)) (zf_X7_net N M) = some (v, (S1, M1, o)) := by rw [hg]; rfl
    exact (pz_T_eq hc1).mpr ((pz_T_eq hg1).mpr ⟨fun _ => hgo S1 M1 o (1600 * t) (by omega) hQ, fun h => absurd rfl h⟩)
  refine ⟨fun _ => ?_, fun _ => ?_⟩
  · obtain ⟨x, S1, o1, b, M1, hc, hg, hx, ho, hQ⟩ := pr_call (pr_o_pin hN hR (xs (nI (4 + 5 * t) + ((1 : Int32))).toNatClampNeg) (xs (nI (4 + 5 * t) + ((2 : Int32))).toNatClampNeg) (xs (nI (4 + 5 * t) + ((3 : Int32))).toNatClampNeg) (xs (nI (4 + 5 * t) + ((4 : Int32))).toNatClampNeg)) S M o
    refine ⟨hin1, hin2, hin3, hin4, (pz_T_eq hc).mpr ⟨hin1, hin2, hin3, hin4, (pz_T_eq hg).mpr ((pz_T_eq pr_thr).mpr ?_)⟩⟩
    exact hb S1 M1 o1 (1600 * t) x b (by omega) hQ hx ho
  refine ⟨fun _ => ?_, fun _ => ?_⟩
  · obtain ⟨x, S1, o1, b, M1, hc, hg, hx, ho, hQ⟩ := pr_call (pr_o_cost hN hR (xs (nI (4 + 5 * t) + ((1 : Int32))).toNatClampNeg) (xs (nI (4 + 5 * t) + ((2 : Int32))).toNatClampNeg) (xs (nI (4 + 5 * t) + ((3 : Int32))).toNatClampNeg) (xs (nI (4 + 5 * t) + ((4 : Int32))).toNatClampNeg)) S M o
    refine ⟨hin1, hin2, hin3, hin4, (pz_T_eq hc).mpr ⟨hin1, hin2, hin3, hin4, (pz_T_eq hg).mpr ((pz_T_eq pr_thr).mpr ?_)⟩⟩
    exact hb S1 M1 o1 (1600 * t) x b (by omega) hQ hx ho
  refine ⟨fun _ => ?_, fun _ => ?_⟩
  · obtain ⟨x, S1, o1, b, M1, hc, hg, hx, ho, hQ⟩ := pr_call (pr_o_run (by omega) hN hR (xs (nI (4 + 5 * t) + ((1 : Int32))).toNatClampNeg)) S M o
    refine ⟨hin1, (pz_T_eq hc).mpr ⟨hin1, (pz_T_eq hg).mpr ((pz_T_eq pr_thr).mpr ?_)⟩⟩
    exact hi S1 M1 o1 (1600 * t + 1600) x _ (by omega) hQ hx ho
  refine ⟨fun _ => ?_, fun _ => ?_⟩
  · obtain ⟨x, S1, o1, b, M1, hc, hg, hx, ho, hQ⟩ := pr_call (pr_o_piece hN hR (xs (nI (4 + 5 * t) + ((1 : Int32))).toNatClampNeg) (xs (nI (4 + 5 * t) + ((2 : Int32))).toNatClampNeg) (xs (nI (4 + 5 * t) + ((3 : Int32))).toNatClampNeg)) S M o
    refine ⟨hin1, hin2, hin3, (pz_T_eq hc).mpr ⟨hin1, hin2, hin3, (pz_T_eq hg).mpr ((pz_T_eq pr_thr).mpr ?_)⟩⟩
    exact hi S1 M1 o1 (1600 * t) x _ (by omega) hQ hx ho
  refine ⟨fun _ => ?_, fun _ => ?_⟩
  · obtain ⟨x, S1, o1, b, M1, hc, hg, hx, ho, hQ⟩ := pr_call (pr_o_costOf hN hR (xs (nI (4 + 5 * t) + ((1 : Int32))).toNatClampNeg)) S M o
    refine ⟨hin1, (pz_T_eq hc).mpr ⟨hin1, (pz_T_eq hg).mpr ((pz_T_eq pr_thr).mpr ?_)⟩⟩
    exact hi S1 M1 o1 (1600 * t) x _ (by omega) hQ hx ho
  refine ⟨fun _ => ?_, fun _ => ?_⟩
  · obtain ⟨x, S1, o1, b, M1, hc, hg, hx, ho, hQ⟩ := pr_call (pr_o_ripped hN hR (xs (nI (4 + 5 * t) + ((1 : Int32))).toNatClampNeg)) S M o
    refine ⟨hin1, (pz_T_eq hc).mpr ⟨hin1, (pz_T_eq hg).mpr ((pz_T_eq pr_thr).mpr ?_)⟩⟩
    exact hi S1 M1 o1 (1600 * t) x _ (by omega) hQ hx ho
  refine ⟨fun _ => ?_, fun _ => ?_⟩
  · obtain ⟨x, S1, o1, b, M1, hc, hg, hx, ho, hQ⟩ := pr_call (pr_o_history hN hR (by omega) (xs (nI (4 + 5 * t) + ((1 : Int32))).toNatClampNeg) (xs (nI (4 + 5 * t) + ((2 : Int32))).toNatClampNeg) (xs (nI (4 + 5 * t) + ((3 : Int32))).toNatClampNeg)) S M o
    refine ⟨hin1, hin2, hin3, (pz_T_eq hc).mpr ⟨hin1, hin2, hin3, (pz_T_eq hg).mpr ((pz_T_eq pr_thr).mpr ?_)⟩⟩
    exact hi S1 M1 o1 (1600 * t) x _ (by omega) hQ hx ho
  refine ⟨fun _ => ?_, fun _ => ?_⟩
  · obtain ⟨v, M1, hc, hg, hQ⟩ := pr_o_open hN hR (xs (nI (4 + 5 * t) + ((1 : Int32))).toNatClampNeg)
    have hc1 : zz_lift (zz_upC (S, M, o)) (zz_ro2 (zf_X6_open N (W * H * D) S (xs (nI (4 + 5 * t) + ((1 : Int32))).toNatClampNeg)) S) = some (v, (S, M, o)) := by rw [hc]; rfl
    have hg1 : zz_lift (zz_upM (S, M, o)) (zf_X7_open N M (xs (nI (4 + 5 * t) + ((1 : Int32))).toNatClampNeg)) = some (v, (S, M1, o)) := by rw [hg]; rfl
    exact ⟨hin1, (pz_T_eq hc1).mpr ⟨hin1, (pz_T_eq hg1).mpr ⟨fun _ => hgo S M1 o (1600 * t) (by omega) hQ, fun h => absurd rfl h⟩⟩⟩
  refine ⟨fun _ => ?_, fun _ => ?_⟩
  · obtain ⟨x, S1, o1, b, M1, hc, hg, hx, ho, hQ⟩ := pr_call (pr_o_blocking hN hR (xs (nI (4 + 5 * t) + ((1 : Int32))).toNatClampNeg) (xs (nI (4 + 5 * t) + ((2 : Int32))).toNatClampNeg)) S M o
    refine ⟨hin1, hin2, (pz_T_eq hc).mpr ⟨hin1, hin2, (pz_T_eq hg).mpr ((pz_T_eq pr_thr).mpr ?_)⟩⟩
    exact hi S1 M1 o1 (1600 * t) x _ (by omega) hQ hx ho
  refine ⟨fun _ => ?_, fun _ => ?_⟩
  · obtain ⟨x, S1, o1, b, M1, hc, hg, hx, ho, hQ⟩ := pr_call (pr_o_joined hN hR (xs (nI (4 + 5 * t) + ((1 : Int32))).toNatClampNeg)) S M o
    refine ⟨hin1, (pz_T_eq hc).mpr ⟨hin1, (pz_T_eq hg).mpr ((pz_T_eq pr_thr).mpr ?_)⟩⟩
    exact hb S1 M1 o1 (1600 * t) x b (by omega) hQ hx ho
  refine ⟨fun _ => ?_, fun _ => ?_⟩
  · obtain ⟨x, S1, o1, b, M1, hc, hg, hx, ho, hQ⟩ := pr_call (pr_o_corridor hN hR (xs (nI (4 + 5 * t) + ((1 : Int32))).toNatClampNeg) (xs (nI (4 + 5 * t) + ((2 : Int32))).toNatClampNeg)) S M o
    refine ⟨hin1, hin2, (pz_T_eq hc).mpr ⟨hin1, hin2, (pz_T_eq hg).mpr ((pz_T_eq pr_thr).mpr ?_)⟩⟩
    exact hi S1 M1 o1 (1600 * t) x _ (by omega) hQ hx ho
  refine ⟨fun _ => ?_, fun _ => ?_⟩
  · obtain ⟨v, M1, hc, hg, hQ⟩ := pr_o_round hN hR 
    have hc1 : zz_lift (zz_upC (S, M, o)) (zz_ro2 (zf_X6_round N (W * H * D) S) S) = some (v, (S, M, o)) := by rw [hc]; rfl
    have hg1 : zz_lift (zz_upM (S, M, o)) (zf_X7_round N M) = some (v, (S, M1, o)) := by rw [hg]; rfl
    exact (pz_T_eq hc1).mpr ((pz_T_eq hg1).mpr ⟨fun _ => hgo S M1 o (1600 * t) (by omega) hQ, fun h => absurd rfl h⟩)
  refine ⟨fun _ => ?_, fun _ => ?_⟩
  · obtain ⟨x, S1, o1, b, M1, hc, hg, hx, ho, hQ⟩ := pr_call (pr_o_band hN hR (xs (nI (4 + 5 * t) + ((1 : Int32))).toNatClampNeg)) S M o
    refine ⟨hin1, (pz_T_eq hc).mpr ⟨hin1, (pz_T_eq hg).mpr ((pz_T_eq pr_thr).mpr ?_)⟩⟩
    exact hb S1 M1 o1 (1600 * t) x b (by omega) hQ hx ho
  exact hgo S M o (1600 * t) (by omega) ⟨nn, pc, pn, hR⟩
theorem pr_init {W H D : Nat} (hs : pz_siz W H D) (seed : Int64) : pr_I W H D 0 (zz_C0 (nI W) (nI H) (nI D) (nI (W * H)) (W * H * D) seed) (zz_M0 (nI W) (nI H) (nI D) seed) := by
  have hz := hs.2.2.2.2.1
  have h10 : ∀ c, c < (W * H * D) → zz_ga (zz_C0 (nI W) (nI H) (nI D) (nI (W * H)) (W * H * D) seed) 10 c = -1 := by
    intro c hc
    show (if c < W * H * D then (-1 : Int32) else 0) = -1
    exact if_pos hc
  refine ⟨0, fun _ => 0, fun _ _ => 0, hs, ⟨⟨rfl, rfl, rfl, rfl, rfl⟩, ⟨rfl, rfl, rfl⟩, by omega, rfl, rfl, rfl, rfl⟩, ?_, ?_, ?_, ?_, ?_, ?_⟩
  · intro c hc
    exact ⟨rfl, rfl, 0, Nat.le_refl _, rfl, rfl⟩
  · intro l hl
    exact ⟨0, 0, 0, ⟨by omega, by omega, by omega⟩, ⟨rfl, rfl, rfl⟩, rfl, rfl, rfl⟩
  · intro n hn
    refine ⟨⟨Nat.zero_le _, rfl, rfl⟩, ⟨rfl, Or.inl rfl⟩, rfl, rfl, rfl, ?_⟩
    intro i hi h
    rw [show zz_ga (zz_C0 (nI W) (nI H) (nI D) (nI (W * H)) (W * H * D) seed) 23 n = 0 from rfl, b_0] at h
    cases h
  · intro n hn
    exact ⟨fun p hp => absurd hp (Nat.not_lt_zero _), fun p p' hp => absurd hp (Nat.not_lt_zero _)⟩
  · intro c hc
    rw [h10 c hc]
    refine ⟨fun _ => ?_, fun h => h.elim, Or.inl rfl, fun h => absurd rfl h⟩
    show (if c < 1024 then (-1 : Int32) else 0) = -1
    exact if_pos (by omega)
  · intro n hn
    refine ⟨fun _ c hc h => ?_, fun h => absurd rfl h⟩
    rw [h10 c hc, pz_m1n (by omega)] at h
    exact h.elim
theorem pr_pure : zz_pure := by
  intro L xs W H D seed hL w1 w2 h1 h2 d1 d2
  have hs := pz_siz_of w1 w2 h1 h2 d1 d2
  apply pz_eq_of
  unfold zf_law_loop zz_T0
  refine pz_fixm2 (fun m i T => ∃ t S M o, i = nI (4 + 5 * t) ∧ 513 - t = m ∧ t ≤ 513 ∧ T = (S, M, o) ∧ pr_I W H D (1600 * t) S M) ?_ 5000 513 _ _ ⟨0, _, _, _, rfl, rfl, by omega, rfl, pr_init hs seed⟩ (by omega)
  rintro rc m _ _ ⟨t, S, M, o, rfl, rfl, ht, rfl, hI⟩ hrc
  refine pr_turn1 (by omega) hL hI (by omega) (fun h S' M' o' hI' => ?_)
  exact hrc (513 - (t + 1)) _ _ (by omega) ⟨t + 1, S', M', o', rfl, rfl, by omega, rfl, hI'⟩

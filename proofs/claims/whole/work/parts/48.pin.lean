def pr_pc (pc : Nat → Nat) (n : Nat) : Nat → Nat := fun m => if m = n then pc n + 1 else pc m
def pr_pn (pc : Nat → Nat) (pn : Nat → Nat → Nat) (n c : Nat) : Nat → Nat → Nat := fun m p => if m = n ∧ p = pc n then c else pn m p
theorem pr_R_pin {W H D nn q : Nat} {pc : Nat → Nat} {pn : Nat → Nat → Nat} {S S' M M' : zz_St} {n c : Nat} (hR : pr_R W H D nn q pc pn 0 (fun _ => False) S M) (hn : n < nn) (hc : c < (W * H * D)) (h9 : zz_ga S 9 c = 0) (h10 : zz_ga S 10 c = -1 ∨ zz_ga S 10 c = nI n) (h5 : pc n < 5)
    (s0 : ∀ i, zz_gi S' i = zz_gi S i) (s1 : zz_gl S' 0 = zz_gl S 0) (s2 : ∀ r, r ≠ 9 → r ≠ 10 → r ≠ 21 → r ≠ 22 → zz_ga S' r = zz_ga S r) (s9 : zz_ga S' 9 = upd (zz_ga S 9) c 1) (s10 : ∀ x, x < (W * H * D) → zz_ga S' 10 x = if x = c then nI n else if zz_ga S 10 x = nI n ∧ zz_ga S 9 x = 0 then -1 else zz_ga S 10 x)
    (s21 : zz_ga S' 21 = upd (zz_ga S 21) n (nI (pc n + 1))) (s22 : zz_ga S' 22 = upd (zz_ga S 22) n 0) (sA : ∀ r, zz_gA S' r = zz_gA S r) (sp : ∀ m, m ≠ n → zz_gp S' m = zz_gp S m) (spn : zz_gp S' n = upd (zz_gp S n) (pc n) (nI c))
    (m0 : ∀ i, 1 ≤ i → zz_gi M' i = zz_gi M i) (m1 : zz_gl M' 0 = zz_gl M 0) (m2 : ∀ r, r ≠ 1 → r ≠ 2 → r ≠ 3 → r ≠ 4 → r ≠ 10 → r ≠ 11 → zz_ga M' r = zz_ga M r) (m4 : zz_ga M' 4 = upd (zz_ga M 4) c 1) (m3 : ∀ x, x < (W * H * D) → zz_ga M' 3 x = if x = c then nI n else if zz_ga M 3 x = nI n ∧ zz_ga M 4 x = 0 then -1 else zz_ga M 3 x)
    (mp : zz_ga M' 2 = upd (zz_ga M 2) (5 * n + pc n) (nI c)) (mc : zz_ga M' 1 = upd (zz_ga M 1) n (nI (pc n + 1))) (m10 : zz_ga M' 10 = upd (zz_ga M 10) n 0) (m11 : zz_ga M' 11 = upd (zz_ga M 11) n 0) (mA : ∀ r, zz_gA M' r = zz_gA M r) :
    pr_R W H D nn q (pr_pc pc n) (pr_pn pc pn n c) 0 (fun _ => False) S' M' := by
  obtain ⟨hs, hA, hB, hC, hD, hE, hF, hG⟩ := hR
  have hz := hs.2.2.2.2.1
  have hnn := hA.2.2.1
  have hne : ∀ m p, m < 12 → p < pc m → pn m p ≠ c := by
    intro m p hm hp h
    have := ((hE m hm).1 p hp).2.2.2.1
    rw [h] at this
    exact this h9
  have hpn : ∀ m p, p < pc m → pr_pn pc pn n c m p = pn m p := by
    intro m p hp
    unfold pr_pn
    refine if_neg ?_
    rintro ⟨rfl, rfl⟩
    omega
  -- who holds what of another net
  have hho : ∀ x m, x < (W * H * D) → m < 12 → m ≠ n → (zz_ga S' 10 x = nI m ↔ zz_ga S 10 x = nI m) ∧ (zz_ga S' 10 x = nI m → x ≠ c) := by
    intro x m hx hm hmn
    have e1 : (nI n = nI m) = (n = m) := pz_eqI (by omega) (by omega)
    rw [s10 x hx]
    by_cases hxc : x = c
    · subst hxc
      rw [if_pos rfl, e1]
      refine ⟨⟨fun h => absurd h.symm hmn, fun h => ?_⟩, fun h => absurd h.symm hmn⟩
      rw [h, pz_nm1 (by omega)] at h10
      rcases h10 with h10 | h10
      · exact h10.elim
      · rw [pz_eqI (by omega) (by omega)] at h10
        exact absurd h10 hmn
    · rw [if_neg hxc]
      refine ⟨?_, fun _ => hxc⟩
      by_cases hq : zz_ga S 10 x = nI n ∧ zz_ga S 9 x = 0
      · rw [if_pos hq, pz_m1n (by omega), hq.1, e1]
        exact ⟨fun h => h.elim, fun h => absurd h.symm hmn⟩
      · rw [if_neg hq]
  refine ⟨hs, ?_, ?_, ?_, ?_, ?_, ?_, ?_⟩
  · unfold pr_A pz_cgeo pz_mgeo at *
    rw [s0, s0, s0, s0, s0, s0, s0, m0 1 (by omega), m0 2 (by omega), m0 3 (by omega), m0 4 (by omega), m0 5 (by omega), m1, s1]
    exact hA
  · intro x hx
    obtain ⟨b1, b2, b3⟩ := hB x hx
    rw [m2 5 (by decide) (by decide) (by decide) (by decide) (by decide) (by decide), s2 8 (by decide) (by decide) (by decide) (by decide), m4, s9, sA, mA]
    refine ⟨b1, ?_, b3⟩
    by_cases e1 : x = c
    · subst e1; rw [pk_us, pk_us]
    · rw [pk_un e1, pk_un e1]; exact b2
  · intro l hl
    simp (disch := omega) only [m2, s2]
    exact hC l hl
  · intro m hm
    obtain ⟨⟨d1, d2, d3⟩, ⟨d4, d5⟩, d6, d7, d8, d9⟩ := hD m hm
    rw [s21, mc, m10, s22, sA, mA]
    simp (disch := omega) only [m2, s2]
    unfold pr_pc
    by_cases e1 : m = n
    · subst e1
      simp only [pk_us, if_true]
      exact ⟨⟨by omega, trivial, trivial⟩, ⟨trivial, Or.inl trivial⟩, d6, d7, d8, d9⟩
    · simp only [pk_un e1, if_neg e1]
      exact ⟨⟨d1, d2, d3⟩, ⟨d4, d5⟩, d6, d7, d8, d9⟩
  · intro m hm
    obtain ⟨e1, e2⟩ := hE m hm
    have hD5 := (hD m hm).1.1
    by_cases hmn : m = n
    · subst hmn
      have hpc : pr_pc pc m m = pc m + 1 := if_pos rfl
      rw [hpc]
      refine ⟨fun p hp => ?_, fun p p' hp hp' h => ?_⟩
      · by_cases hpl : p < pc m
        · obtain ⟨f1, f2, f3, f4, f5⟩ := e1 p hpl
          rw [hpn m p hpl, spn, pk_un (by omega), mp, pk_un (by omega), s9, pk_un (hne m p hm hpl), s10 _ f3, if_neg (hne m p hm hpl), if_neg (fun h => f4 h.2)]
          exact ⟨f1, f2, f3, f4, f5⟩
        · have : p = pc m := by omega
          subst this
          have hpx : pr_pn pc pn m c m (pc m) = c := if_pos ⟨rfl, rfl⟩
          rw [hpx, spn, pk_us, mp, pk_us, s9, pk_us, s10 c hc, if_pos rfl]
          exact ⟨rfl, rfl, hc, by decide, rfl⟩
      · by_cases hpl : p < pc m
        · by_cases hpl' : p' < pc m
          · rw [hpn m p hpl, hpn m p' hpl'] at h
            exact e2 p p' hpl hpl' h
          · have : p' = pc m := by omega
            subst this
            rw [hpn m p hpl, show pr_pn pc pn m c m (pc m) = c from if_pos ⟨rfl, rfl⟩] at h
            exact absurd h (hne m p hm hpl)
        · have : p = pc m := by omega
          subst this
          by_cases hpl' : p' < pc m
          · rw [hpn m p' hpl', show pr_pn pc pn m c m (pc m) = c from if_pos ⟨rfl, rfl⟩] at h
            exact absurd h.symm (hne m p' hm hpl')
          · omega
    · have hpc : pr_pc pc n m = pc m := if_neg hmn
      rw [hpc]
      refine ⟨fun p hp => ?_, fun p p' hp hp' h => ?_⟩
      · obtain ⟨f1, f2, f3, f4, f5⟩ := e1 p hp
        rw [hpn m p hp, sp m hmn, mp, pk_un (by omega), s9, pk_un (hne m p hm hp)]
        exact ⟨f1, f2, f3, f4, ((hho _ m f3 hm hmn).1).mpr f5⟩
      · rw [hpn m p hp, hpn m p' hp'] at h
        exact e2 p p' hp hp' h
  · intro x hx
    obtain ⟨f1, -, f3, f4⟩ := hF x hx
    rw [m3 x hx, s10 x hx, f1 (fun h => h), (hB x hx).2.1, s9]
    refine ⟨fun _ => rfl, fun h => h.elim, ?_, ?_⟩
    · by_cases hxc : x = c
      · rw [if_pos hxc]; exact Or.inr ⟨n, hn, rfl⟩
      · rw [if_neg hxc]
        split
        · exact Or.inl rfl
        · exact f3
    · intro h
      by_cases hxc : x = c
      · subst hxc
        exact ⟨n, pc n, by omega, by unfold pr_pc; rw [if_pos rfl]; omega, if_pos ⟨rfl, rfl⟩⟩
      · rw [pk_un hxc] at h
        obtain ⟨m, p, hm, hp, rfl⟩ := f4 h
        refine ⟨m, p, hm, ?_, hpn m p hp⟩
        unfold pr_pc
        split
        · rename_i e; subst e; omega
        · exact hp
  · intro m hm
    obtain ⟨g1, g2⟩ := hG m hm
    rw [s22, s9]
    by_cases hmn : m = n
    · subst hmn
      rw [pk_us]
      refine ⟨fun _ x hx hxm => ?_, fun h => absurd rfl h⟩
      rw [s10 x hx] at hxm
      by_cases hxc : x = c
      · subst hxc; rw [pk_us]; decide
      · rw [if_neg hxc] at hxm
        rw [pk_un hxc]
        by_cases hq : zz_ga S 10 x = nI m ∧ zz_ga S 9 x = 0
        · rw [if_pos hq, pz_m1n (by omega)] at hxm
          exact hxm.elim
        · rw [if_neg hq] at hxm
          exact fun h => hq ⟨hxm, h⟩
    · rw [pk_un hmn]
      refine ⟨fun h0 x hx hxm => ?_, fun h0 => ?_⟩
      · obtain ⟨q1, q2⟩ := hho x m hx hm hmn
        rw [pk_un (q2 hxm)]
        exact g1 h0 x hx (q1.mp hxm)
      · obtain ⟨us, ut, u1, u2, u3, u4⟩ := g2 h0
        refine ⟨us, ut, u1, ?_, fun i hi => ?_, fun x hx hxm => u4 x hx ((hho x m hx hm hmn).1.mp hxm)⟩
        · rw [m11, pk_un hmn]; exact u2
        · obtain ⟨v1, v2, v3, v4⟩ := u3 i hi
          rw [m2 12 (by decide) (by decide) (by decide) (by decide) (by decide) (by decide), s2 11 (by decide) (by decide) (by decide) (by decide)]
          exact ⟨v1, v2, ((hho _ m v1 hm hmn).1).mpr v3, v4⟩
theorem pr_c_hasRoom {N z : Nat} {S : zz_St} {n pcn : Nat} (h : zz_ga S 21 n = nI pcn) (h5 : pcn ≤ 5) : zf_X2_hasRoom N z S n = some (pz_b (decide (pcn < 5))) := by
  apply pz_eq_of
  unfold zf_X2_hasRoom
  simp only [pz_T_ite, pz_T_gd, pz_T_jn1, pz_T_jn2, pz_T_some, pz_T_let, pz_T_b1, pz_T_b2]
  rw [h, pz_c5a (by omega)]
  refine ⟨fun h => ⟨by decide, ?_⟩, fun h => ⟨by decide, ?_⟩⟩
  · rw [decide_eq_false (by omega)]; rfl
  · rw [decide_eq_true (by omega)]; rfl
theorem pr_o_pin {W H D nn q : Nat} {pc : Nat → Nat} {pn : Nat → Nat → Nat} {N : Nat} (hN : 2000 ≤ N) {S M : zz_St} (hR : pr_R W H D nn q pc pn 0 (fun _ => False) S M) (p1 p2 p3 p4 : Int32) : pr_mo zz_cvZ zz_cvZ zz_h1 (pr_I W H D q) (zf_X6_pin N (W * H * D) S p1 p2 p3 p4) (zf_X7_pin N M p1 p2 p3 p4) := by
  have hA := hR.2.1
  have hnn := hA.2.2.1
  have hz := hR.1.2.2.2.2.1
  apply pr_mo_of
  unfold zf_X6_pin
  have hbad : pr_rel (V := Int32) zz_cvZ zz_cvZ zz_h1 (pr_I W H D q) (Sum.inr (1, S)) ((0 : Int32), zz_si M 0 1) := pr_th rfl (by decide) pz_gi_si (pr_I_th hR (Nat.le_refl _))
  have hno : pr_rel zz_cvZ zz_cvZ zz_h1 (pr_I W H D q) (Sum.inl ((0 : Int32), S)) ((0 : Int32), zz_si M 0 0) := pr_ok pz_gi_si rfl (pr_I_th hR (Nat.le_refl _))
  rcases pr_net (N := N) (z := (W * H * D)) hnn hA.2.2.2.1 hA.2.2.2.2.1 p1 with ⟨n, hn, rfl, h1, h2⟩ | ⟨h1, h2⟩
  · rw [pz_T_bxl h1]
    rcases pr_cell (N := N) hR.1 hA.1 hA.2.1 p2 p3 p4 with ⟨c, hc, h3, h4⟩ | ⟨h3, h4⟩
    · rw [pz_T_bxl h3]
      have hn12 : n < 12 := by omega
      have hc4 : c < 1024 := by omega
      obtain ⟨⟨d1, d2, d3⟩, -⟩ := hR.2.2.2.2.1 n hn12
      obtain ⟨b1, b2, -⟩ := hR.2.2.1 c hc
      obtain ⟨f1, -, f3, f4⟩ := hR.2.2.2.2.2.2.1 c hc
      have e3 := f1 (fun h => h)
      have key2 : zz_ga S 9 c ≠ 0 → zz_ga S 10 c ≠ -1 := by
        intro h h'
        obtain ⟨m, p, hm, hp, hmp⟩ := f4 h
        have := ((hR.2.2.2.2.2.1 m hm).1 p hp).2.2.2.2
        rw [hmp, h', pz_m1n (by omega)] at this
        exact this
      have hM : ∀ {Q : Int32 × zz_St → Prop}, (((zz_ga S 8 c ≠ 0 ∨ zz_ga S 9 c ≠ 0 ∨ (zz_ga S 10 c ≠ -1 ∧ zz_ga S 10 c ≠ nI n) ∨ pc n = 5) ∧ Q (0, zz_si M 0 0)) ∨ ((zz_ga S 8 c = 0 ∧ zz_ga S 9 c = 0 ∧ (zz_ga S 10 c = -1 ∨ zz_ga S 10 c = nI n) ∧ pc n < 5) ∧ pz_T (zf_X7_loosen N (zz_si M 0 0) (nI n)) (fun M1 => zz_ga M1 1 n = nI (pc n) ∧ Q (1, zz_sa (zz_sa (zz_sa (zz_sa M1 2 (upd (zz_ga M1 2) (5 * n + pc n) (nI c))) 1 (upd (zz_ga M1 1) n (nI (pc n + 1)))) 3 (upd (zz_ga M1 3) c (nI n))) 4 (upd (zz_ga M1 4) c 1))))) → pz_T (zf_X7_pin N M (nI n) p2 p3 p4) Q := by
        intro Q hQ
        unfold zf_X7_pin
        simp only [pz_T_ite, pz_T_gd, pz_T_jn1, pz_T_jn2, pz_T_some, pz_T_let, pz_T_b1, pz_T_b2]
        simp only [pz_T_eq h4, pz_T_eq h2]
        simp (disch := omega) only [pz_gi_si, pz_gi_si_n, pz_gi_sl, pz_gi_sa, pz_gi_sA, pz_gi_sp, pz_gl_si, pz_gl_sl, pz_gl_sl_n, pz_gl_sa, pz_gl_sA, pz_gl_sp, pz_ga_si, pz_ga_sl, pz_ga_sa, pz_ga_sa_n, pz_ga_sA, pz_ga_sp, pz_gA_si, pz_gA_sl, pz_gA_sa, pz_gA_sA, pz_gA_sA_n, pz_gA_sp, pz_gp_si, pz_gp_sl, pz_gp_sa, pz_gp_sA, pz_gp_sp, pz_gp_sp_n, pz_in, nI_clampI, pz_nm1, pr_10, b1, b2, e3, d3, pz_c5e, not_false_iff, false_imp_iff, true_imp_iff, true_and]
        have hm1n : ((-1 : Int32) = nI n) = False := pz_m1n (by omega)
        rcases hQ with ⟨hx, hQ⟩ | ⟨⟨y8, y9, y10, y5⟩, hQ⟩
        · by_cases a8 : zz_ga S 8 c = 0 <;> by_cases a9 : zz_ga S 9 c = 0 <;> by_cases a1 : zz_ga S 10 c = -1 <;> by_cases an : zz_ga S 10 c = nI n <;> by_cases a5 : pc n = 5 <;> first | (exfalso; exact key2 a9 a1) | (exfalso; simp [a8, a9, a1, an, a5, hm1n] at hx; done) | (simp [a8, a9, a1, an, a5, hc4, hn12, hm1n]; exact hQ) | (exfalso; rw [a1, hm1n] at an; exact an)
        · have y5' : ¬ pc n = 5 := by omega
          have hend : pz_T (zf_X7_loosen N (zz_si M 0 0) (nI n)) (fun v => zz_in (5 * nI n + zz_ga v 1 n) 60 = true ∧ Q (1, zz_sa (zz_sa (zz_sa (zz_sa v 2 (upd (zz_ga v 2) (5 * nI n + zz_ga v 1 n).toNatClampNeg (nI c))) 1 (upd (zz_ga v 1) n (zz_ga v 1 n + 1))) 3 (upd (zz_ga v 3) c (nI n))) 4 (upd (zz_ga v 4) c (vp_nar .boolean 1)))) := by
            refine pz_T_mono hQ ?_
            rintro v ⟨hv1, hv2⟩
            simp (disch := omega) only [hv1, pz_5m, nI_add, pz_in, nI_clampI, nI_1, pz_nar1]
            exact ⟨by omega, hv2⟩
          rcases y10 with a1 | an
          · simp [y8, y9, a1, y5', hc4, hn12, hm1n]
            exact hend
          · have a1 : ¬ zz_ga S 10 c = -1 := by rw [an, pz_nm1 (by omega)]; exact fun h => h
            simp [y8, y9, an, y5', hc4, hn12, pz_nm1 (show n < 2147483648 by omega)]
            exact hend
      have hot : zf_X1_heldByOther N (W * H * D) S (nI c) (nI n) = some (pz_b (decide (zz_ga S 10 c ≠ -1 ∧ zz_ga S 10 c ≠ nI n))) := pz_c_other' hz hc (by rw [decide_eq_true_iff])
      have hrm := pr_c_hasRoom (N := N) (z := (W * H * D)) d2 d1
      simp only [pz_T_ite, pz_T_gd, pz_T_jn1, pz_T_jn2, pz_T_some, pz_T_let, pz_T_b1, pz_T_b2]
      simp only [pz_T_eq hot, pz_T_eq hrm]
      simp (disch := omega) only [pz_in, nI_clampI, pz_b_0, decide_eq_false_iff_not]
      refine ⟨hc, ?_⟩
      have hnoM : (zz_ga S 8 c ≠ 0 ∨ zz_ga S 9 c ≠ 0 ∨ (zz_ga S 10 c ≠ -1 ∧ zz_ga S 10 c ≠ nI n) ∨ pc n = 5) → pz_T (zf_X7_pin N M (nI n) p2 p3 p4) (fun b => pr_rel zz_cvZ zz_cvZ zz_h1 (pr_I W H D q) (Sum.inl ((0 : Int32), S)) b) := fun h => hM (Or.inl ⟨h, hno⟩)
      refine ⟨fun a8 => ⟨hc, fun a9 => ⟨fun ho => ⟨fun hr => hnoM (Or.inr (Or.inr (Or.inr (by omega)))), fun hr => ?_⟩, fun ho => hnoM (Or.inr (Or.inr (Or.inl (Classical.not_not.mp ho))))⟩, fun a9 => hnoM (Or.inr (Or.inl a9))⟩, fun a8 => hnoM (Or.inl a8)⟩
      have a5 : pc n < 5 := by omega
      have a10 : zz_ga S 10 c = -1 ∨ zz_ga S 10 c = nI n := by
        by_cases h : zz_ga S 10 c = -1
        · exact Or.inl h
        · by_cases h' : zz_ga S 10 c = nI n
          · exact Or.inr h'
          · exact absurd ⟨h, h'⟩ ho
      refine pz_T_mono (pz_c_layOpen (z := (W * H * D)) hz hN hn12 hA.1.2.2.2.2) ?_
      rintro _ ⟨f, rfl, hf⟩
      have hrm2 := pr_c_hasRoom (N := N) (z := (W * H * D)) (S := zz_sa (zz_sa S 22 (upd (zz_ga S 22) n 0)) 10 f) (n := n) (pcn := pc n) (by rw [pz_ga_sa_n (by decide), pz_ga_sa_n (by decide)]; exact d2) d1
      unfold zf_X2_addPin
      simp only [pz_T_ite, pz_T_gd, pz_T_jn1, pz_T_jn2, pz_T_some, pz_T_let, pz_T_b1, pz_T_b2]
      simp only [pz_T_eq hrm2]
      simp (disch := omega) only [pz_gi_si, pz_gi_si_n, pz_gi_sl, pz_gi_sa, pz_gi_sA, pz_gi_sp, pz_gl_si, pz_gl_sl, pz_gl_sl_n, pz_gl_sa, pz_gl_sA, pz_gl_sp, pz_ga_si, pz_ga_sl, pz_ga_sa, pz_ga_sa_n, pz_ga_sA, pz_ga_sp, pz_gA_si, pz_gA_sl, pz_gA_sa, pz_gA_sA, pz_gA_sA_n, pz_gA_sp, pz_gp_si, pz_gp_sl, pz_gp_sa, pz_gp_sA, pz_gp_sp, pz_gp_sp_n, d2, pz_in, nI_clampI, pz_b_0, decide_eq_false_iff_not, nI_1, pz_nar1]
      refine ⟨fun h => absurd a5 h, fun _ => ⟨a5, hc, hc, ?_⟩⟩
      refine hM (Or.inr ⟨⟨a8, a9, a10, a5⟩, ?_⟩)
      refine pz_T_mono (pz_m_loosen (M := zz_si M 0 0) hN hn12) ?_
      rintro _ ⟨g, rfl, hg⟩
      simp (disch := omega) only [pz_gi_si, pz_gi_si_n, pz_gi_sl, pz_gi_sa, pz_gi_sA, pz_gi_sp, pz_gl_si, pz_gl_sl, pz_gl_sl_n, pz_gl_sa, pz_gl_sA, pz_gl_sp, pz_ga_si, pz_ga_sl, pz_ga_sa, pz_ga_sa_n, pz_ga_sA, pz_ga_sp, pz_gA_si, pz_gA_sl, pz_gA_sa, pz_gA_sA, pz_gA_sA_n, pz_gA_sp, pz_gp_si, pz_gp_sl, pz_gp_sa, pz_gp_sA, pz_gp_sp, pz_gp_sp_n] at hg ⊢
      refine ⟨d3, pr_ok ?_ rfl ⟨nn, pr_pc pc n, pr_pn pc pn n c, ?_⟩⟩
      · simp (disch := omega) only [pz_gi_si, pz_gi_si_n, pz_gi_sl, pz_gi_sa, pz_gi_sA, pz_gi_sp, pz_gl_si, pz_gl_sl, pz_gl_sl_n, pz_gl_sa, pz_gl_sA, pz_gl_sp, pz_ga_si, pz_ga_sl, pz_ga_sa, pz_ga_sa_n, pz_ga_sA, pz_ga_sp, pz_gA_si, pz_gA_sl, pz_gA_sa, pz_gA_sA, pz_gA_sA_n, pz_gA_sp, pz_gp_si, pz_gp_sl, pz_gp_sa, pz_gp_sA, pz_gp_sp, pz_gp_sp_n]
      refine pr_R_pin (n := n) (c := c) hR hn hc a9 a10 a5 ?_ ?_ ?_ ?_ ?_ ?_ ?_ ?_ ?_ ?_ ?_ ?_ ?_ ?_ ?_ ?_ ?_ ?_ ?_ ?_
      · intro i; simp (disch := omega) only [pz_gi_si, pz_gi_si_n, pz_gi_sl, pz_gi_sa, pz_gi_sA, pz_gi_sp, pz_gl_si, pz_gl_sl, pz_gl_sl_n, pz_gl_sa, pz_gl_sA, pz_gl_sp, pz_ga_si, pz_ga_sl, pz_ga_sa, pz_ga_sa_n, pz_ga_sA, pz_ga_sp, pz_gA_si, pz_gA_sl, pz_gA_sa, pz_gA_sA, pz_gA_sA_n, pz_gA_sp, pz_gp_si, pz_gp_sl, pz_gp_sa, pz_gp_sA, pz_gp_sp, pz_gp_sp_n]
      · simp (disch := omega) only [pz_gi_si, pz_gi_si_n, pz_gi_sl, pz_gi_sa, pz_gi_sA, pz_gi_sp, pz_gl_si, pz_gl_sl, pz_gl_sl_n, pz_gl_sa, pz_gl_sA, pz_gl_sp, pz_ga_si, pz_ga_sl, pz_ga_sa, pz_ga_sa_n, pz_ga_sA, pz_ga_sp, pz_gA_si, pz_gA_sl, pz_gA_sa, pz_gA_sA, pz_gA_sA_n, pz_gA_sp, pz_gp_si, pz_gp_sl, pz_gp_sa, pz_gp_sA, pz_gp_sp, pz_gp_sp_n]
      · intro r r1 r2 r3 r4; simp (disch := omega) only [pz_gi_si, pz_gi_si_n, pz_gi_sl, pz_gi_sa, pz_gi_sA, pz_gi_sp, pz_gl_si, pz_gl_sl, pz_gl_sl_n, pz_gl_sa, pz_gl_sA, pz_gl_sp, pz_ga_si, pz_ga_sl, pz_ga_sa, pz_ga_sa_n, pz_ga_sA, pz_ga_sp, pz_gA_si, pz_gA_sl, pz_gA_sa, pz_gA_sA, pz_gA_sA_n, pz_gA_sp, pz_gp_si, pz_gp_sl, pz_gp_sa, pz_gp_sA, pz_gp_sp, pz_gp_sp_n]
      · simp (disch := omega) only [pz_gi_si, pz_gi_si_n, pz_gi_sl, pz_gi_sa, pz_gi_sA, pz_gi_sp, pz_gl_si, pz_gl_sl, pz_gl_sl_n, pz_gl_sa, pz_gl_sA, pz_gl_sp, pz_ga_si, pz_ga_sl, pz_ga_sa, pz_ga_sa_n, pz_ga_sA, pz_ga_sp, pz_gA_si, pz_gA_sl, pz_gA_sa, pz_gA_sA, pz_gA_sA_n, pz_gA_sp, pz_gp_si, pz_gp_sl, pz_gp_sa, pz_gp_sA, pz_gp_sp, pz_gp_sp_n]
      · intro x hx
        simp (disch := omega) only [pz_gi_si, pz_gi_si_n, pz_gi_sl, pz_gi_sa, pz_gi_sA, pz_gi_sp, pz_gl_si, pz_gl_sl, pz_gl_sl_n, pz_gl_sa, pz_gl_sA, pz_gl_sp, pz_ga_si, pz_ga_sl, pz_ga_sa, pz_ga_sa_n, pz_ga_sA, pz_ga_sp, pz_gA_si, pz_gA_sl, pz_gA_sa, pz_gA_sA, pz_gA_sA_n, pz_gA_sp, pz_gp_si, pz_gp_sl, pz_gp_sa, pz_gp_sA, pz_gp_sp, pz_gp_sp_n]
        by_cases e1 : x = c
        · subst e1; rw [pk_us, if_pos rfl]
        · rw [pk_un e1, if_neg e1]; exact hf x hx
      · simp (disch := omega) only [pz_gi_si, pz_gi_si_n, pz_gi_sl, pz_gi_sa, pz_gi_sA, pz_gi_sp, pz_gl_si, pz_gl_sl, pz_gl_sl_n, pz_gl_sa, pz_gl_sA, pz_gl_sp, pz_ga_si, pz_ga_sl, pz_ga_sa, pz_ga_sa_n, pz_ga_sA, pz_ga_sp, pz_gA_si, pz_gA_sl, pz_gA_sa, pz_gA_sA, pz_gA_sA_n, pz_gA_sp, pz_gp_si, pz_gp_sl, pz_gp_sa, pz_gp_sA, pz_gp_sp, pz_gp_sp_n]
      · simp (disch := omega) only [pz_gi_si, pz_gi_si_n, pz_gi_sl, pz_gi_sa, pz_gi_sA, pz_gi_sp, pz_gl_si, pz_gl_sl, pz_gl_sl_n, pz_gl_sa, pz_gl_sA, pz_gl_sp, pz_ga_si, pz_ga_sl, pz_ga_sa, pz_ga_sa_n, pz_ga_sA, pz_ga_sp, pz_gA_si, pz_gA_sl, pz_gA_sa, pz_gA_sA, pz_gA_sA_n, pz_gA_sp, pz_gp_si, pz_gp_sl, pz_gp_sa, pz_gp_sA, pz_gp_sp, pz_gp_sp_n]
      · intro r; simp (disch := omega) only [pz_gi_si, pz_gi_si_n, pz_gi_sl, pz_gi_sa, pz_gi_sA, pz_gi_sp, pz_gl_si, pz_gl_sl, pz_gl_sl_n, pz_gl_sa, pz_gl_sA, pz_gl_sp, pz_ga_si, pz_ga_sl, pz_ga_sa, pz_ga_sa_n, pz_ga_sA, pz_ga_sp, pz_gA_si, pz_gA_sl, pz_gA_sa, pz_gA_sA, pz_gA_sA_n, pz_gA_sp, pz_gp_si, pz_gp_sl, pz_gp_sa, pz_gp_sA, pz_gp_sp, pz_gp_sp_n]
      · intro m hm; simp (disch := omega) only [pz_gi_si, pz_gi_si_n, pz_gi_sl, pz_gi_sa, pz_gi_sA, pz_gi_sp, pz_gl_si, pz_gl_sl, pz_gl_sl_n, pz_gl_sa, pz_gl_sA, pz_gl_sp, pz_ga_si, pz_ga_sl, pz_ga_sa, pz_ga_sa_n, pz_ga_sA, pz_ga_sp, pz_gA_si, pz_gA_sl, pz_gA_sa, pz_gA_sA, pz_gA_sA_n, pz_gA_sp, pz_gp_si, pz_gp_sl, pz_gp_sa, pz_gp_sA, pz_gp_sp, pz_gp_sp_n]
      · simp (disch := omega) only [pz_gi_si, pz_gi_si_n, pz_gi_sl, pz_gi_sa, pz_gi_sA, pz_gi_sp, pz_gl_si, pz_gl_sl, pz_gl_sl_n, pz_gl_sa, pz_gl_sA, pz_gl_sp, pz_ga_si, pz_ga_sl, pz_ga_sa, pz_ga_sa_n, pz_ga_sA, pz_ga_sp, pz_gA_si, pz_gA_sl, pz_gA_sa, pz_gA_sA, pz_gA_sA_n, pz_gA_sp, pz_gp_si, pz_gp_sl, pz_gp_sa, pz_gp_sA, pz_gp_sp, pz_gp_sp_n]
      · intro i hi; simp (disch := omega) only [pz_gi_si, pz_gi_si_n, pz_gi_sl, pz_gi_sa, pz_gi_sA, pz_gi_sp, pz_gl_si, pz_gl_sl, pz_gl_sl_n, pz_gl_sa, pz_gl_sA, pz_gl_sp, pz_ga_si, pz_ga_sl, pz_ga_sa, pz_ga_sa_n, pz_ga_sA, pz_ga_sp, pz_gA_si, pz_gA_sl, pz_gA_sa, pz_gA_sA, pz_gA_sA_n, pz_gA_sp, pz_gp_si, pz_gp_sl, pz_gp_sa, pz_gp_sA, pz_gp_sp, pz_gp_sp_n]
      · simp (disch := omega) only [pz_gi_si, pz_gi_si_n, pz_gi_sl, pz_gi_sa, pz_gi_sA, pz_gi_sp, pz_gl_si, pz_gl_sl, pz_gl_sl_n, pz_gl_sa, pz_gl_sA, pz_gl_sp, pz_ga_si, pz_ga_sl, pz_ga_sa, pz_ga_sa_n, pz_ga_sA, pz_ga_sp, pz_gA_si, pz_gA_sl, pz_gA_sa, pz_gA_sA, pz_gA_sA_n, pz_gA_sp, pz_gp_si, pz_gp_sl, pz_gp_sa, pz_gp_sA, pz_gp_sp, pz_gp_sp_n]
      · intro r r1 r2 r3 r4 r5 r6; simp (disch := omega) only [pz_gi_si, pz_gi_si_n, pz_gi_sl, pz_gi_sa, pz_gi_sA, pz_gi_sp, pz_gl_si, pz_gl_sl, pz_gl_sl_n, pz_gl_sa, pz_gl_sA, pz_gl_sp, pz_ga_si, pz_ga_sl, pz_ga_sa, pz_ga_sa_n, pz_ga_sA, pz_ga_sp, pz_gA_si, pz_gA_sl, pz_gA_sa, pz_gA_sA, pz_gA_sA_n, pz_gA_sp, pz_gp_si, pz_gp_sl, pz_gp_sa, pz_gp_sA, pz_gp_sp, pz_gp_sp_n]
      · simp (disch := omega) only [pz_gi_si, pz_gi_si_n, pz_gi_sl, pz_gi_sa, pz_gi_sA, pz_gi_sp, pz_gl_si, pz_gl_sl, pz_gl_sl_n, pz_gl_sa, pz_gl_sA, pz_gl_sp, pz_ga_si, pz_ga_sl, pz_ga_sa, pz_ga_sa_n, pz_ga_sA, pz_ga_sp, pz_gA_si, pz_gA_sl, pz_gA_sa, pz_gA_sA, pz_gA_sA_n, pz_gA_sp, pz_gp_si, pz_gp_sl, pz_gp_sa, pz_gp_sA, pz_gp_sp, pz_gp_sp_n]
      · intro x hx
        simp (disch := omega) only [pz_gi_si, pz_gi_si_n, pz_gi_sl, pz_gi_sa, pz_gi_sA, pz_gi_sp, pz_gl_si, pz_gl_sl, pz_gl_sl_n, pz_gl_sa, pz_gl_sA, pz_gl_sp, pz_ga_si, pz_ga_sl, pz_ga_sa, pz_ga_sa_n, pz_ga_sA, pz_ga_sp, pz_gA_si, pz_gA_sl, pz_gA_sa, pz_gA_sA, pz_gA_sA_n, pz_gA_sp, pz_gp_si, pz_gp_sl, pz_gp_sa, pz_gp_sA, pz_gp_sp, pz_gp_sp_n]
        by_cases e1 : x = c
        · subst e1; rw [pk_us, if_pos rfl]
        · rw [pk_un e1, if_neg e1]; exact hg x (by omega)
      · simp (disch := omega) only [pz_gi_si, pz_gi_si_n, pz_gi_sl, pz_gi_sa, pz_gi_sA, pz_gi_sp, pz_gl_si, pz_gl_sl, pz_gl_sl_n, pz_gl_sa, pz_gl_sA, pz_gl_sp, pz_ga_si, pz_ga_sl, pz_ga_sa, pz_ga_sa_n, pz_ga_sA, pz_ga_sp, pz_gA_si, pz_gA_sl, pz_gA_sa, pz_gA_sA, pz_gA_sA_n, pz_gA_sp, pz_gp_si, pz_gp_sl, pz_gp_sa, pz_gp_sA, pz_gp_sp, pz_gp_sp_n]
      · simp (disch := omega) only [pz_gi_si, pz_gi_si_n, pz_gi_sl, pz_gi_sa, pz_gi_sA, pz_gi_sp, pz_gl_si, pz_gl_sl, pz_gl_sl_n, pz_gl_sa, pz_gl_sA, pz_gl_sp, pz_ga_si, pz_ga_sl, pz_ga_sa, pz_ga_sa_n, pz_ga_sA, pz_ga_sp, pz_gA_si, pz_gA_sl, pz_gA_sa, pz_gA_sA, pz_gA_sA_n, pz_gA_sp, pz_gp_si, pz_gp_sl, pz_gp_sa, pz_gp_sA, pz_gp_sp, pz_gp_sp_n]
      · simp (disch := omega) only [pz_gi_si, pz_gi_si_n, pz_gi_sl, pz_gi_sa, pz_gi_sA, pz_gi_sp, pz_gl_si, pz_gl_sl, pz_gl_sl_n, pz_gl_sa, pz_gl_sA, pz_gl_sp, pz_ga_si, pz_ga_sl, pz_ga_sa, pz_ga_sa_n, pz_ga_sA, pz_ga_sp, pz_gA_si, pz_gA_sl, pz_gA_sa, pz_gA_sA, pz_gA_sA_n, pz_gA_sp, pz_gp_si, pz_gp_sl, pz_gp_sa, pz_gp_sA, pz_gp_sp, pz_gp_sp_n]
      · simp (disch := omega) only [pz_gi_si, pz_gi_si_n, pz_gi_sl, pz_gi_sa, pz_gi_sA, pz_gi_sp, pz_gl_si, pz_gl_sl, pz_gl_sl_n, pz_gl_sa, pz_gl_sA, pz_gl_sp, pz_ga_si, pz_ga_sl, pz_ga_sa, pz_ga_sa_n, pz_ga_sA, pz_ga_sp, pz_gA_si, pz_gA_sl, pz_gA_sa, pz_gA_sA, pz_gA_sA_n, pz_gA_sp, pz_gp_si, pz_gp_sl, pz_gp_sa, pz_gp_sA, pz_gp_sp, pz_gp_sp_n]
      · intro r; simp (disch := omega) only [pz_gi_si, pz_gi_si_n, pz_gi_sl, pz_gi_sa, pz_gi_sA, pz_gi_sp, pz_gl_si, pz_gl_sl, pz_gl_sl_n, pz_gl_sa, pz_gl_sA, pz_gl_sp, pz_ga_si, pz_ga_sl, pz_ga_sa, pz_ga_sa_n, pz_ga_sA, pz_ga_sp, pz_gA_si, pz_gA_sl, pz_gA_sa, pz_gA_sA, pz_gA_sA_n, pz_gA_sp, pz_gp_si, pz_gp_sl, pz_gp_sa, pz_gp_sA, pz_gp_sp, pz_gp_sp_n]
    · rw [pz_T_bxr h3]
      unfold zf_X7_pin
      simp only [pz_T_ite, pz_T_gd, pz_T_jn1, pz_T_jn2, pz_T_some, pz_T_let, pz_T_b1, pz_T_b2]
      simp only [pz_T_eq h4, pz_T_eq h2]
      simp only [pz_gi_si, pr_10, pr_m11, not_false_iff, not_true, false_imp_iff, true_imp_iff, true_and, and_true]
      exact hbad
  · rw [pz_T_bxr h1]
    unfold zf_X7_pin
    simp only [pz_T_ite, pz_T_gd, pz_T_jn1, pz_T_jn2, pz_T_some, pz_T_let, pz_T_b1, pz_T_b2]
    rcases pr_cell (N := N) hR.1 hA.1 hA.2.1 p2 p3 p4 with ⟨c, hc, h3, h4⟩ | ⟨h3, h4⟩
    · simp only [pz_T_eq h4, pz_T_eq h2]
      simp only [pz_gi_si, pr_10, not_false_iff, not_true, false_imp_iff, true_imp_iff, true_and, and_true]
      exact hbad
    · simp only [pz_T_eq h4, pz_T_eq h2]
      simp only [pz_gi_si, pr_10, not_false_iff, not_true, false_imp_iff, true_imp_iff, true_and, and_true]
      exact hbad

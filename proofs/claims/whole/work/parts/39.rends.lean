theorem pr_sa_sw {S : zz_St} {k j : Nat} {v w u : Nat → Int32} (h : k ≠ j) : zz_sa (zz_sa (zz_sa S k v) j w) k u = zz_sa (zz_sa S k u) j w := by
  unfold zz_sa
  simp only [pz_up_sw h]
theorem pr_c_holdFor {S : zz_St} {N z k ts : Nat} {tr : Nat → Nat} (hz : z ≤ 1024) (hN : 2000 ≤ N) (ht : pz_tree z ts tr S) (hinj : ∀ i j, i < ts → j < ts → tr i = tr j → i = j) :
    pz_T (zf_X5_holdFor N z S (nI k)) (fun S' => ∃ f g, S' = zz_sa (zz_sa S 10 f) 11 g ∧ (∀ c, pz_Tt ts tr c → f c = nI k) ∧ (∀ c, ¬ pz_Tt ts tr c → f c = zz_ga S 10 c ∧ g c = zz_ga S 11 c) ∧ ∀ i, i < ts → g (tr i) = nI i) := by
  unfold zf_X5_holdFor
  rw [pz_T_let]
  obtain ⟨t1, t2, t3⟩ := ht
  refine pz_for2 (e := ts) (fun m S' => ∃ f g, S' = zz_sa (zz_sa S 10 f) 11 g ∧ (∀ c, pz_Tt m tr c → f c = nI k) ∧ (∀ c, ¬ pz_Tt m tr c → f c = zz_ga S 10 c ∧ g c = zz_ga S 11 c) ∧ ∀ i, i < m → g (tr i) = nI i) ?_ N 0 _ (by omega) ⟨zz_ga S 10, zz_ga S 11, ?_, ?_, ?_, ?_⟩ (by omega)
  · rintro rc m _ hm ⟨f, g, rfl, hf, hn, hg⟩ hrc
    simp only [pz_T_ite, pz_T_gd, pz_T_jn1, pz_T_jn2, pz_T_some, pz_T_let, pz_T_b1, pz_T_b2]
    simp (disch := omega) only [pz_gi_si, pz_gi_si_n, pz_gi_sl, pz_gi_sa, pz_gi_sA, pz_gi_sp, pz_gl_si, pz_gl_sl, pz_gl_sl_n, pz_gl_sa, pz_gl_sA, pz_gl_sp, pz_ga_si, pz_ga_sl, pz_ga_sa, pz_ga_sa_n, pz_ga_sA, pz_ga_sp, pz_gA_si, pz_gA_sl, pz_gA_sa, pz_gA_sA, pz_gA_sA_n, pz_gA_sp, pz_gp_si, pz_gp_sl, pz_gp_sa, pz_gp_sA, pz_gp_sp, pz_gp_sp_n, t1, pz_leI]
    refine ⟨fun hge => ?_, fun hlt => ?_⟩
    · have : m = ts := by omega
      subst this
      exact ⟨f, g, rfl, hf, hn, hg⟩
    · have hm' : m < ts := by omega
      obtain ⟨a1, a2⟩ := t3 m hm'
      simp (disch := omega) only [nI_clampI, a1, pz_in, nI_1, pr_sa_sw (show (10 : Nat) ≠ 11 by decide), pz_saa]
      refine ⟨by omega, by omega, by omega, by omega, hrc (by omega) _ ⟨_, _, rfl, ?_, ?_, ?_⟩⟩
      · rintro c ⟨i, hi, rfl⟩
        by_cases e1 : tr i = tr m
        · rw [e1, pk_us]
        · rw [pk_un e1]
          refine hf _ ⟨i, ?_, rfl⟩
          by_cases e2 : i = m
          · subst e2; exact absurd rfl e1
          · omega
      · intro c hc
        have e1 : c ≠ tr m := fun h => hc ⟨m, by omega, h.symm⟩
        rw [pk_un e1, pk_un e1]
        exact hn c (fun ⟨i, hi, h⟩ => hc ⟨i, by omega, h⟩)
      · intro i hi
        by_cases e1 : i = m
        · subst e1; rw [pk_us]
        · rw [pk_un (fun h => e1 (hinj i m (by omega) hm' h))]
          exact hg i (by omega)
  · rw [pz_sa_id]
    have := pz_sa_id (S := S) (k := 11)
    exact this.symm
  · rintro c ⟨i, hi, -⟩
    omega
  · intro c _
    exact ⟨rfl, rfl⟩
  · intro i hi
    omega
theorem pr_R_k {W H D nn q : Nat} {pc : Nat → Nat} {pn : Nat → Nat → Nat} {k k' : Nat} {S M : zz_St} (h : pr_R W H D nn q pc pn k (fun _ => False) S M) : pr_R W H D nn q pc pn k' (fun _ => False) S M := by
  obtain ⟨hs, hA, hB, hC, hD, hE, hF, hG⟩ := h
  refine ⟨hs, hA, hB, hC, hD, hE, fun c hc => ?_, hG⟩
  obtain ⟨f1, -, f3⟩ := hF c hc
  exact ⟨f1, fun h => h.elim, f3⟩
/-- a net is led -/
theorem pr_end1 {W H D nn q : Nat} {pc : Nat → Nat} {pn : Nat → Nat → Nat} {k ts N : Nat} {tr : Nat → Nat} {S M : zz_St} (hR : pr_R W H D nn q pc pn k (pz_Tt ts tr) S M) (ht : pr_t (W * H * D) k ts tr S M) (hk : k < nn) (hN : 2000 ≤ N) (hpins : ∀ p, p < pc k → pz_Tt ts tr (pn k p)) :
    pz_T (zf_X5_holdFor N (W * H * D) (zz_sa S 22 (upd (zz_ga S 22) k 1)) (nI k)) (fun S' => pr_R W H D nn q pc pn k (fun _ => False) S' (zz_sa M 10 (upd (zz_ga M 10) k 1)) ∧ zz_ga S' 7 = zz_ga S 7) := by
  have hR0 := hR
  obtain ⟨hs, hA, hB, hC, hD, hE, hF, hG⟩ := hR
  obtain ⟨t1, t2, t3, t4, t5, t6, t7⟩ := ht
  have hz := hs.2.2.2.2.1
  have hnn := hA.2.2.1
  refine pz_T_mono (pr_c_holdFor (S := zz_sa S 22 (upd (zz_ga S 22) k 1)) (ts := ts) (tr := tr) hz hN ?_ t5) ?_
  · unfold pz_tree at t1 ⊢
    simp (disch := omega) only [pz_gi_si, pz_gi_si_n, pz_gi_sl, pz_gi_sa, pz_gi_sA, pz_gi_sp, pz_gl_si, pz_gl_sl, pz_gl_sl_n, pz_gl_sa, pz_gl_sA, pz_gl_sp, pz_ga_si, pz_ga_sl, pz_ga_sa, pz_ga_sa_n, pz_ga_sA, pz_ga_sp, pz_gA_si, pz_gA_sl, pz_gA_sa, pz_gA_sA, pz_gA_sA_n, pz_gA_sp, pz_gp_si, pz_gp_sl, pz_gp_sa, pz_gp_sA, pz_gp_sp, pz_gp_sp_n]
    exact t1
  rintro _ ⟨f, g, rfl, hf, hn, hg⟩
  simp (disch := omega) only [pz_gi_si, pz_gi_si_n, pz_gi_sl, pz_gi_sa, pz_gi_sA, pz_gi_sp, pz_gl_si, pz_gl_sl, pz_gl_sl_n, pz_gl_sa, pz_gl_sA, pz_gl_sp, pz_ga_si, pz_ga_sl, pz_ga_sa, pz_ga_sa_n, pz_ga_sA, pz_ga_sp, pz_gA_si, pz_gA_sl, pz_gA_sa, pz_gA_sA, pz_gA_sA_n, pz_gA_sp, pz_gp_si, pz_gp_sl, pz_gp_sa, pz_gp_sA, pz_gp_sp, pz_gp_sp_n] at hn
  have hTz : ∀ c, pz_Tt ts tr c → c < (W * H * D) := by
    rintro c ⟨i, hi, rfl⟩
    exact (t1.2.2 i hi).2
  have hfn : ∀ c n, c < (W * H * D) → n < 12 → n ≠ k → (f c = nI n ↔ zz_ga S 10 c = nI n) ∧ (f c = nI n → ¬ pz_Tt ts tr c) := by
    intro c n hc hn' hne
    by_cases hT : pz_Tt ts tr c
    · have h1 := hf c hT
      obtain ⟨-, h2⟩ := (hF c hc).2.1 hT
      rw [h1]
      constructor
      · rw [pz_eqI (by omega) (by omega)]
        constructor
        · intro h; omega
        · intro h
          rw [h, pz_nm1 (by omega), pz_eqI (by omega) (by omega)] at h2
          rcases h2 with h2 | h2
          · exact h2.elim
          · exact absurd h2 hne
      · rw [pz_eqI (by omega) (by omega)]
        intro h; omega
    · rw [(hn c hT).1]
      exact ⟨Iff.rfl, fun _ => hT⟩
  refine ⟨⟨hs, ?_, ?_, ?_, ?_, ?_, ?_, ?_⟩, ?_⟩
  · unfold pr_A pz_cgeo pz_mgeo at *
    simp (disch := omega) only [pz_gi_si, pz_gi_si_n, pz_gi_sl, pz_gi_sa, pz_gi_sA, pz_gi_sp, pz_gl_si, pz_gl_sl, pz_gl_sl_n, pz_gl_sa, pz_gl_sA, pz_gl_sp, pz_ga_si, pz_ga_sl, pz_ga_sa, pz_ga_sa_n, pz_ga_sA, pz_ga_sp, pz_gA_si, pz_gA_sl, pz_gA_sa, pz_gA_sA, pz_gA_sA_n, pz_gA_sp, pz_gp_si, pz_gp_sl, pz_gp_sa, pz_gp_sA, pz_gp_sp, pz_gp_sp_n]
    exact hA
  · intro c hc
    simp (disch := omega) only [pz_gi_si, pz_gi_si_n, pz_gi_sl, pz_gi_sa, pz_gi_sA, pz_gi_sp, pz_gl_si, pz_gl_sl, pz_gl_sl_n, pz_gl_sa, pz_gl_sA, pz_gl_sp, pz_ga_si, pz_ga_sl, pz_ga_sa, pz_ga_sa_n, pz_ga_sA, pz_ga_sp, pz_gA_si, pz_gA_sl, pz_gA_sa, pz_gA_sA, pz_gA_sA_n, pz_gA_sp, pz_gp_si, pz_gp_sl, pz_gp_sa, pz_gp_sA, pz_gp_sp, pz_gp_sp_n]
    exact hB c hc
  · intro l hl
    simp (disch := omega) only [pz_gi_si, pz_gi_si_n, pz_gi_sl, pz_gi_sa, pz_gi_sA, pz_gi_sp, pz_gl_si, pz_gl_sl, pz_gl_sl_n, pz_gl_sa, pz_gl_sA, pz_gl_sp, pz_ga_si, pz_ga_sl, pz_ga_sa, pz_ga_sa_n, pz_ga_sA, pz_ga_sp, pz_gA_si, pz_gA_sl, pz_gA_sa, pz_gA_sA, pz_gA_sA_n, pz_gA_sp, pz_gp_si, pz_gp_sl, pz_gp_sa, pz_gp_sA, pz_gp_sp, pz_gp_sp_n]
    exact hC l hl
  · intro n hn'
    obtain ⟨d1, ⟨d2, d3⟩, d4⟩ := hD n hn'
    simp (disch := omega) only [pz_gi_si, pz_gi_si_n, pz_gi_sl, pz_gi_sa, pz_gi_sA, pz_gi_sp, pz_gl_si, pz_gl_sl, pz_gl_sl_n, pz_gl_sa, pz_gl_sA, pz_gl_sp, pz_ga_si, pz_ga_sl, pz_ga_sa, pz_ga_sa_n, pz_ga_sA, pz_ga_sp, pz_gA_si, pz_gA_sl, pz_gA_sa, pz_gA_sA, pz_gA_sA_n, pz_gA_sp, pz_gp_si, pz_gp_sl, pz_gp_sa, pz_gp_sA, pz_gp_sp, pz_gp_sp_n]
    refine ⟨d1, ⟨?_, ?_⟩, d4⟩
    · by_cases e1 : n = k
      · subst e1; rw [pk_us, pk_us]
      · rw [pk_un e1, pk_un e1]; exact d2
    · by_cases e1 : n = k
      · subst e1; rw [pk_us]; exact Or.inr rfl
      · rw [pk_un e1]; exact d3
  · intro n hn'
    obtain ⟨e1, e2⟩ := hE n hn'
    refine ⟨fun p hp => ?_, e2⟩
    obtain ⟨f1, f2, f3, f4, f5⟩ := e1 p hp
    simp (disch := omega) only [pz_gi_si, pz_gi_si_n, pz_gi_sl, pz_gi_sa, pz_gi_sA, pz_gi_sp, pz_gl_si, pz_gl_sl, pz_gl_sl_n, pz_gl_sa, pz_gl_sA, pz_gl_sp, pz_ga_si, pz_ga_sl, pz_ga_sa, pz_ga_sa_n, pz_ga_sA, pz_ga_sp, pz_gA_si, pz_gA_sl, pz_gA_sa, pz_gA_sA, pz_gA_sA_n, pz_gA_sp, pz_gp_si, pz_gp_sl, pz_gp_sa, pz_gp_sA, pz_gp_sp, pz_gp_sp_n]
    refine ⟨f1, f2, f3, f4, ?_⟩
    by_cases e3 : n = k
    · subst e3
      exact hf _ (hpins p hp)
    · exact ((hfn _ n f3 hn' e3).1).mpr f5
  · intro c hc
    obtain ⟨f1, f2, f3, f4⟩ := hF c hc
    simp (disch := omega) only [pz_gi_si, pz_gi_si_n, pz_gi_sl, pz_gi_sa, pz_gi_sA, pz_gi_sp, pz_gl_si, pz_gl_sl, pz_gl_sl_n, pz_gl_sa, pz_gl_sA, pz_gl_sp, pz_ga_si, pz_ga_sl, pz_ga_sa, pz_ga_sa_n, pz_ga_sA, pz_ga_sp, pz_gA_si, pz_gA_sl, pz_gA_sa, pz_gA_sA, pz_gA_sA_n, pz_gA_sp, pz_gp_si, pz_gp_sl, pz_gp_sa, pz_gp_sA, pz_gp_sp, pz_gp_sp_n]
    refine ⟨fun _ => ?_, fun h => h.elim, ?_, f4⟩
    · by_cases hT : pz_Tt ts tr c
      · rw [hf c hT, (f2 hT).1]
      · rw [(hn c hT).1, f1 hT]
    · by_cases hT : pz_Tt ts tr c
      · exact Or.inr ⟨k, hk, hf c hT⟩
      · rw [(hn c hT).1]; exact f3
  · intro n hn'
    obtain ⟨g1, g2⟩ := hG n hn'
    by_cases e1 : n = k
    · subst e1
      simp (disch := omega) only [pz_gi_si, pz_gi_si_n, pz_gi_sl, pz_gi_sa, pz_gi_sA, pz_gi_sp, pz_gl_si, pz_gl_sl, pz_gl_sl_n, pz_gl_sa, pz_gl_sA, pz_gl_sp, pz_ga_si, pz_ga_sl, pz_ga_sa, pz_ga_sa_n, pz_ga_sA, pz_ga_sp, pz_gA_si, pz_gA_sl, pz_gA_sa, pz_gA_sA, pz_gA_sA_n, pz_gA_sp, pz_gp_si, pz_gp_sl, pz_gp_sa, pz_gp_sA, pz_gp_sp, pz_gp_sp_n, pk_us, pr_G1]
      refine ⟨fun h => absurd h (by decide), fun _ => ⟨ts, tr, t1.2.1, t2, fun i hi => ⟨(t1.2.2 i hi).2, t3 i hi, hf _ ⟨i, hi, rfl⟩, hg i hi⟩, fun c hc hcn => ?_⟩⟩
      by_cases hT : pz_Tt ts tr c
      · exact hT
      · rw [(hn c hT).1] at hcn
        obtain ⟨p, hp, rfl⟩ := pr_own hR0 hn' t6 hc hcn
        exact hpins p hp
    · simp (disch := omega) only [pz_gi_si, pz_gi_si_n, pz_gi_sl, pz_gi_sa, pz_gi_sA, pz_gi_sp, pz_gl_si, pz_gl_sl, pz_gl_sl_n, pz_gl_sa, pz_gl_sA, pz_gl_sp, pz_ga_si, pz_ga_sl, pz_ga_sa, pz_ga_sa_n, pz_ga_sA, pz_ga_sp, pz_gA_si, pz_gA_sl, pz_gA_sa, pz_gA_sA, pz_gA_sA_n, pz_gA_sp, pz_gp_si, pz_gp_sl, pz_gp_sa, pz_gp_sA, pz_gp_sp, pz_gp_sp_n, pk_un e1, pr_G1]
      refine ⟨fun h0 c hc hcn => ?_, fun h0 => ?_⟩
      · exact g1 h0 c hc ((hfn c n hc hn' e1).1.mp hcn)
      · obtain ⟨us, ut, u1, u2, u3, u4⟩ := g2 h0
        refine ⟨us, ut, u1, u2, fun i hi => ?_, fun c hc hcn => u4 c hc ((hfn c n hc hn' e1).1.mp hcn)⟩
        obtain ⟨v1, v2, v3, v4⟩ := u3 i hi
        have h5 := ((hfn _ n v1 hn' e1).1).mpr v3
        have h6 := (hfn _ n v1 hn' e1).2 h5
        exact ⟨v1, v2, h5, by rw [(hn _ h6).2]; exact v4⟩
  · simp (disch := omega) only [pz_gi_si, pz_gi_si_n, pz_gi_sl, pz_gi_sa, pz_gi_sA, pz_gi_sp, pz_gl_si, pz_gl_sl, pz_gl_sl_n, pz_gl_sa, pz_gl_sA, pz_gl_sp, pz_ga_si, pz_ga_sl, pz_ga_sa, pz_ga_sa_n, pz_ga_sA, pz_ga_sp, pz_gA_si, pz_gA_sl, pz_gA_sa, pz_gA_sA, pz_gA_sA_n, pz_gA_sp, pz_gp_si, pz_gp_sl, pz_gp_sa, pz_gp_sA, pz_gp_sp, pz_gp_sp_n]
/-- a net stays open -/
theorem pr_end0 {W H D nn q : Nat} {pc : Nat → Nat} {pn : Nat → Nat → Nat} {k ts : Nat} {tr : Nat → Nat} {S M M1 : zz_St} {x : Int32} {f : Nat → Int32} (hR : pr_R W H D nn q pc pn k (pz_Tt ts tr) S M) (ht : pr_t (W * H * D) k ts tr S M) (hk : k < nn)
    (hx : ∀ i, i < 32 → bt x i = true → i < nn) (g0 : ∀ i, zz_gi M1 i = zz_gi M i) (g1 : zz_gl M1 0 = zz_gl M 0) (g2 : ∀ r, r ≠ 15 → zz_ga M1 r = zz_ga M r) (g3 : zz_gA M1 6 = zz_gA M 6) (g4 : zz_gA M1 13 = zz_gA M 13) (g5 : zz_ga M1 15 = upd (zz_ga M 15) k x)
    (hf : ∀ c, c < 1024 → f c = if zz_ga M 3 c = nI k ∧ zz_ga M 4 c = 0 then -1 else zz_ga M 3 c) :
    pr_R W H D nn q pc pn k (fun _ => False) (zz_sa S 23 (upd (zz_ga S 23) k x)) (zz_sa (zz_sa (zz_sa M1 3 f) 10 (upd (zz_ga M1 10) k 0)) 11 (upd (zz_ga M1 11) k 0)) := by
  have hR0 := hR
  obtain ⟨hs, hA, hB, hC, hD, hE, hF, hG⟩ := hR
  obtain ⟨t1, t2, t3, t4, t5, t6, t7⟩ := ht
  have hz := hs.2.2.2.2.1
  have hnn := hA.2.2.1
  have hfS : ∀ c, c < (W * H * D) → f c = zz_ga S 10 c := by
    intro c hc
    rw [hf c (by omega), (hB c hc).2.1]
    obtain ⟨f1, f2, f3, f4⟩ := hF c hc
    by_cases hT : pz_Tt ts tr c
    · obtain ⟨h1, h2⟩ := f2 hT
      rw [h1]
      by_cases h9 : zz_ga S 9 c = 0
      · rw [if_pos ⟨rfl, h9⟩]
        rcases h2 with h2 | h2
        · exact h2.symm
        · exact absurd h9 ((hG k (by omega)).1 t6 c hc h2)
      · rw [if_neg (fun h => h9 h.2)]
        rcases h2 with h2 | h2
        · obtain ⟨n, p, hn, hp, rfl⟩ := f4 h9
          have := ((hE n hn).1 p hp).2.2.2.2
          rw [h2, pz_m1n (by omega)] at this
          exact this.elim
        · exact h2.symm
    · rw [f1 hT]
      by_cases h : zz_ga S 10 c = nI k ∧ zz_ga S 9 c = 0
      · exact absurd h.2 ((hG k (by omega)).1 t6 c hc h.1)
      · rw [if_neg h]
  refine ⟨hs, ?_, ?_, ?_, ?_, ?_, ?_, ?_⟩
  · unfold pr_A pz_cgeo pz_mgeo at *
    simp (disch := omega) only [pz_gi_si, pz_gi_si_n, pz_gi_sl, pz_gi_sa, pz_gi_sA, pz_gi_sp, pz_gl_si, pz_gl_sl, pz_gl_sl_n, pz_gl_sa, pz_gl_sA, pz_gl_sp, pz_ga_si, pz_ga_sl, pz_ga_sa, pz_ga_sa_n, pz_ga_sA, pz_ga_sp, pz_gA_si, pz_gA_sl, pz_gA_sa, pz_gA_sA, pz_gA_sA_n, pz_gA_sp, pz_gp_si, pz_gp_sl, pz_gp_sa, pz_gp_sA, pz_gp_sp, pz_gp_sp_n, g0, g1]
    exact hA
  · intro c hc
    simp (disch := omega) only [pz_gi_si, pz_gi_si_n, pz_gi_sl, pz_gi_sa, pz_gi_sA, pz_gi_sp, pz_gl_si, pz_gl_sl, pz_gl_sl_n, pz_gl_sa, pz_gl_sA, pz_gl_sp, pz_ga_si, pz_ga_sl, pz_ga_sa, pz_ga_sa_n, pz_ga_sA, pz_ga_sp, pz_gA_si, pz_gA_sl, pz_gA_sa, pz_gA_sA, pz_gA_sA_n, pz_gA_sp, pz_gp_si, pz_gp_sl, pz_gp_sa, pz_gp_sA, pz_gp_sp, pz_gp_sp_n, g2, g3]
    exact hB c hc
  · intro l hl
    simp (disch := omega) only [pz_gi_si, pz_gi_si_n, pz_gi_sl, pz_gi_sa, pz_gi_sA, pz_gi_sp, pz_gl_si, pz_gl_sl, pz_gl_sl_n, pz_gl_sa, pz_gl_sA, pz_gl_sp, pz_ga_si, pz_ga_sl, pz_ga_sa, pz_ga_sa_n, pz_ga_sA, pz_ga_sp, pz_gA_si, pz_gA_sl, pz_gA_sa, pz_gA_sA, pz_gA_sA_n, pz_gA_sp, pz_gp_si, pz_gp_sl, pz_gp_sa, pz_gp_sA, pz_gp_sp, pz_gp_sp_n, g2]
    exact hC l hl
  · intro n hn
    obtain ⟨d1, ⟨d2, d3⟩, d4, d5, d6, d7⟩ := hD n hn
    simp (disch := omega) only [pz_gi_si, pz_gi_si_n, pz_gi_sl, pz_gi_sa, pz_gi_sA, pz_gi_sp, pz_gl_si, pz_gl_sl, pz_gl_sl_n, pz_gl_sa, pz_gl_sA, pz_gl_sp, pz_ga_si, pz_ga_sl, pz_ga_sa, pz_ga_sa_n, pz_ga_sA, pz_ga_sp, pz_gA_si, pz_gA_sl, pz_gA_sa, pz_gA_sA, pz_gA_sA_n, pz_gA_sp, pz_gp_si, pz_gp_sl, pz_gp_sa, pz_gp_sA, pz_gp_sp, pz_gp_sp_n, g2, g4, g5]
    refine ⟨d1, ⟨?_, d3⟩, d4, d5, ?_, ?_⟩
    · by_cases e1 : n = k
      · subst e1; rw [pk_us]; exact t6.symm
      · rw [pk_un e1]; exact d2
    · by_cases e1 : n = k
      · subst e1; rw [pk_us, pk_us]
      · rw [pk_un e1, pk_un e1]; exact d6
    · by_cases e1 : n = k
      · subst e1; rw [pk_us]; exact hx
      · rw [pk_un e1]; exact d7
  · intro n hn
    simp (disch := omega) only [pz_gi_si, pz_gi_si_n, pz_gi_sl, pz_gi_sa, pz_gi_sA, pz_gi_sp, pz_gl_si, pz_gl_sl, pz_gl_sl_n, pz_gl_sa, pz_gl_sA, pz_gl_sp, pz_ga_si, pz_ga_sl, pz_ga_sa, pz_ga_sa_n, pz_ga_sA, pz_ga_sp, pz_gA_si, pz_gA_sl, pz_gA_sa, pz_gA_sA, pz_gA_sA_n, pz_gA_sp, pz_gp_si, pz_gp_sl, pz_gp_sa, pz_gp_sA, pz_gp_sp, pz_gp_sp_n, g2]
    exact hE n hn
  · intro c hc
    obtain ⟨f1, f2, f3, f4⟩ := hF c hc
    simp (disch := omega) only [pz_gi_si, pz_gi_si_n, pz_gi_sl, pz_gi_sa, pz_gi_sA, pz_gi_sp, pz_gl_si, pz_gl_sl, pz_gl_sl_n, pz_gl_sa, pz_gl_sA, pz_gl_sp, pz_ga_si, pz_ga_sl, pz_ga_sa, pz_ga_sa_n, pz_ga_sA, pz_ga_sp, pz_gA_si, pz_gA_sl, pz_gA_sa, pz_gA_sA, pz_gA_sA_n, pz_gA_sp, pz_gp_si, pz_gp_sl, pz_gp_sa, pz_gp_sA, pz_gp_sp, pz_gp_sp_n]
    exact ⟨fun _ => hfS c hc, fun h => h.elim, f3, f4⟩
  · intro n hn
    obtain ⟨h1, h2⟩ := hG n hn
    simp (disch := omega) only [pz_gi_si, pz_gi_si_n, pz_gi_sl, pz_gi_sa, pz_gi_sA, pz_gi_sp, pz_gl_si, pz_gl_sl, pz_gl_sl_n, pz_gl_sa, pz_gl_sA, pz_gl_sp, pz_ga_si, pz_ga_sl, pz_ga_sa, pz_ga_sa_n, pz_ga_sA, pz_ga_sp, pz_gA_si, pz_gA_sl, pz_gA_sa, pz_gA_sA, pz_gA_sA_n, pz_gA_sp, pz_gp_si, pz_gp_sl, pz_gp_sa, pz_gp_sA, pz_gp_sp, pz_gp_sp_n, g2, pr_G1]
    refine ⟨h1, fun h0 => ?_⟩
    have hnk : n ≠ k := by
      intro h
      subst h
      exact h0 t6
    obtain ⟨us, ut, u1, u2, u3⟩ := h2 h0
    refine ⟨us, ut, u1, ?_, u3⟩
    rw [pk_un hnk]
    exact u2
/-- a net's leading begins -/
theorem pr_start {W H D nn q : Nat} {pc : Nat → Nat} {pn : Nat → Nat → Nat} {k k0 : Nat} {S S' M M' : zz_St} (hR : pr_R W H D nn q pc pn k0 (fun _ => False) S M) (hk : k < nn) (hpc : 0 < pc k) (h22 : zz_ga S 22 k = 0)
    (s0 : ∀ i, i ≠ 7 → zz_gi S' i = zz_gi S i) (s7 : zz_gi S' 7 = nI 1) (s1 : zz_gl S' 0 = zz_gl S 0) (s2 : ∀ r, r ≠ 16 → r ≠ 23 → zz_ga S' r = zz_ga S r) (s16 : zz_ga S' 16 0 = nI (pn k 0)) (s23 : zz_ga S' 23 = upd (zz_ga S 23) k 0) (s12 : zz_gA S' 12 = zz_gA S 12) (s21 : zz_gA S' 21 = vp_updL (zz_gA S 21) k 0) (s5 : ∀ n, zz_gp S' n = zz_gp S n)
    (m0 : ∀ i, zz_gi M' i = zz_gi M i) (m1 : zz_gl M' 0 = zz_gl M 0) (m2 : ∀ r, r ≠ 11 → r ≠ 12 → r ≠ 15 → r ≠ 17 → zz_ga M' r = zz_ga M r) (m11 : ∀ n, n ≠ k → zz_ga M' 11 n = zz_ga M 11 n) (m11k : zz_ga M' 11 k = nI 1) (m12 : ∀ j, j ≠ 1024 * k → zz_ga M' 12 j = zz_ga M 12 j) (m12k : zz_ga M' 12 (1024 * k) = nI (pn k 0)) (m15 : zz_ga M' 15 = upd (zz_ga M 15) k 0) (m17 : ∀ c, c < 1024 → zz_ga M' 17 c = if c = pn k 0 then 1 else 0)
    (m6 : zz_gA M' 6 = zz_gA M 6) (m13 : zz_gA M' 13 = vp_updL (zz_gA M 13) k 0) :
    pr_R W H D nn q pc pn k (pz_Tt 1 (fun _ => pn k 0)) S' M' ∧ pr_t (W * H * D) k 1 (fun _ => pn k 0) S' M' ∧ pr_pm (pc k) (pn k) 1 (fun _ => pn k 0) = 1 := by
  obtain ⟨hs, hA, hB, hC, hD, hE, hF, hG⟩ := hR
  have hz := hs.2.2.2.2.1
  have hnn := hA.2.2.1
  have hp0 := (hE k (by omega)).1 0 hpc
  have hTt : ∀ c, pz_Tt 1 (fun _ => pn k 0) c ↔ c = pn k 0 := by
    intro c
    constructor
    · rintro ⟨i, -, h⟩; exact h.symm
    · intro h; exact ⟨0, by omega, h.symm⟩
  refine ⟨⟨hs, ?_, ?_, ?_, ?_, ?_, ?_, ?_⟩, ⟨⟨s7, ?_, ?_⟩, m11k, ?_, ?_, ?_, ?_, ?_⟩, ?_⟩
  · unfold pr_A pz_cgeo pz_mgeo at *
    rw [s0 2 (by decide), s0 3 (by decide), s0 4 (by decide), s0 5 (by decide), s0 6 (by decide), s0 0 (by decide), s0 1 (by decide), m0, m0, m0, m0, m0, m1, s1]
    exact hA
  · intro c hc
    simp (disch := omega) only [s2, m2, s12, m6]
    exact hB c hc
  · intro l hl
    simp (disch := omega) only [s2, m2]
    exact hC l hl
  · intro n hn
    obtain ⟨d1, d2, d4, d5, d6, d7⟩ := hD n hn
    simp (disch := omega) only [s2, m2, s23, m15, s21, m13]
    refine ⟨d1, d2, ?_, d5, ?_, ?_⟩
    · by_cases e1 : n = k
      · subst e1; rw [pk_uLs, pk_uLs]
      · rw [pk_uLn e1, pk_uLn e1]; exact d4
    · by_cases e1 : n = k
      · subst e1; rw [pk_us, pk_us]
      · rw [pk_un e1, pk_un e1]; exact d6
    · by_cases e1 : n = k
      · subst e1; rw [pk_us]; intro i _ h; rw [b_0] at h; cases h
      · rw [pk_un e1]; exact d7
  · intro n hn
    simp (disch := omega) only [s2, m2, s5]
    exact hE n hn
  · intro c hc
    obtain ⟨f1, -, f3, f4⟩ := hF c hc
    simp (disch := omega) only [s2, m2]
    refine ⟨fun _ => f1 (fun h => h), fun h => ?_, f3, f4⟩
    rw [hTt] at h
    subst h
    rw [f1 (fun h => h)]
    exact ⟨hp0.2.2.2.2, Or.inr hp0.2.2.2.2⟩
  · intro n hn
    obtain ⟨h1, h2⟩ := hG n hn
    simp (disch := omega) only [s2, m2, pr_G1]
    refine ⟨h1, fun h0 => ?_⟩
    have hnk : n ≠ k := by
      intro h
      subst h
      exact h0 h22
    obtain ⟨us, ut, u1, u2, u3, u4⟩ := h2 h0
    refine ⟨us, ut, u1, by rw [m11 n hnk]; exact u2, fun i hi => ?_, u4⟩
    obtain ⟨v1, v2, v3, v4⟩ := u3 i hi
    exact ⟨v1, by rw [m12 _ (by omega)]; exact v2, v3, v4⟩
  · have := hp0.2.2.1; omega
  · intro i hi
    have : i = 0 := by omega
    subst this
    exact ⟨s16, hp0.2.2.1⟩
  · intro i hi
    have : i = 0 := by omega
    subst this
    exact m12k
  · intro c hc
    rw [m17 c (by omega), hTt]
    by_cases h : c = pn k 0
    · rw [if_pos h]; simp [h]
    · rw [if_neg h]; simp [h]
  · intro i j hi hj _
    omega
  · rw [s2 22 (by decide) (by decide)]; exact h22
  · rw [s23, pk_us]
  · unfold pr_pm
    have h1 : pz_cnt (fun p => pz_memb (fun _ => pn k 0) 1 (pn k p)) (pc k) = pz_cnt (fun _ => false) (pc k) + 1 := by
      refine pz_cnt_one (c0 := 0) ?_ hpc rfl ?_
      · intro p hp hne
        cases hb : pz_memb (fun _ => pn k 0) 1 (pn k p)
        · rfl
        · have := (hTt _).mp (pr_Tt_memb.mp hb)
          exact absurd ((hE k (by omega)).2 p 0 hp hpc this) hne
      · exact pr_Tt_memb.mpr ((hTt _).mpr rfl)
    rw [h1]
    have h2 : ∀ n, pz_cnt (fun _ => false) n = 0 := by
      intro n
      induction n with
      | zero => rfl
      | succ n ih => simp [pz_cnt, ih]
    rw [h2]

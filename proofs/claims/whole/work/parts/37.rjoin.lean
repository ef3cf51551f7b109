theorem pr_Tt_cat {ts L : Nat} {tr pa : Nat → Nat} {c : Nat} : pz_Tt (ts + L) (pz_cat ts tr pa) c ↔ (pz_Tt ts tr c ∨ ∃ j, j < L ∧ pa j = c) := by
  constructor
  · rintro ⟨i, hi, h⟩
    by_cases h1 : i < ts
    · rw [pz_cat_l h1] at h
      exact Or.inl ⟨i, h1, h⟩
    · refine Or.inr ⟨i - ts, by omega, ?_⟩
      have : i = ts + (i - ts) := by omega
      rw [this, pz_cat_r] at h
      exact h
  · rintro (⟨i, hi, h⟩ | ⟨j, hj, h⟩)
    · exact ⟨i, by omega, by rw [pz_cat_l hi]; exact h⟩
    · exact ⟨ts + j, by omega, by rw [pz_cat_r]; exact h⟩
theorem pr_Tt_memb {ts : Nat} {tr : Nat → Nat} {c : Nat} : pz_memb tr ts c = true ↔ pz_Tt ts tr c := pz_memb_t
theorem pr_cat_inj {ts L : Nat} {tr pa : Nat → Nat} (h1 : ∀ i j, i < ts → j < ts → tr i = tr j → i = j) (h2 : ∀ i j, i < L → j < L → pa i = pa j → i = j) (h3 : ∀ j, j < L → ¬ pz_Tt ts tr (pa j)) :
    ∀ i j, i < ts + L → j < ts + L → pz_cat ts tr pa i = pz_cat ts tr pa j → i = j := by
  intro i j hi hj h
  by_cases a : i < ts
  · by_cases b : j < ts
    · rw [pz_cat_l a, pz_cat_l b] at h
      exact h1 i j a b h
    · have e2 : j = ts + (j - ts) := by omega
      rw [pz_cat_l a, e2, pz_cat_r] at h
      exact absurd ⟨i, a, h⟩ (h3 (j - ts) (by omega))
  · have e1 : i = ts + (i - ts) := by omega
    by_cases b : j < ts
    · rw [pz_cat_l b, e1, pz_cat_r] at h
      exact absurd ⟨j, b, h.symm⟩ (h3 (i - ts) (by omega))
    · have e2 : j = ts + (j - ts) := by omega
      rw [e1, e2, pz_cat_r, pz_cat_r] at h
      have := h2 (i - ts) (j - ts) (by omega) (by omega) h
      omega
theorem pr_R_join {W H D nn q : Nat} {pc : Nat → Nat} {pn : Nat → Nat → Nat} {k ts L : Nat} {tr pa : Nat → Nat} {S S1 S' M M' : zz_St} {x x' : Int32} {rip : Bool} {d : Nat → Option Nat} (hR : pr_R W H D nn q pc pn k (pz_Tt ts tr) S M) (ht : pr_t (W * H * D) k ts tr S M) (hk : k < nn) (hq : q ≤ 1000000000)
    (hS1 : S1 = zz_sA S 21 (vp_updL (zz_gA S 21) k (zz_gA S 21 k + zz_gA S 17 (pa 0)))) (hpr : zz_gA M 16 (pa 0) = zz_gA S 17 (pa 0))
    (hp : pz_pth W H D (pr_e k S) rip d L pa) (hroom : ts + L ≤ (W * H * D)) (hpT : ∀ j, j < L → ¬ pz_Tt ts tr (pa j))
    (hc : pr_cj W H D (pr_e k S) nn ts L tr pa x S1 S') (hm : pz_mj W H D (pr_e k S) nn k ts L pa x' M M') :
    pr_R W H D nn (q + 1) pc pn k (pz_Tt (ts + L) (pz_cat ts tr pa)) S' M' ∧ pr_t (W * H * D) k (ts + L) (pz_cat ts tr pa) S' M' := by
  have hR0 := hR
  obtain ⟨hs, hA, hB, hC, hD, hE, hF, hG⟩ := hR
  obtain ⟨t1, t2, t3, t4, t5, t6, t7⟩ := ht
  have hz := hs.2.2.2.2.1
  have hnn := hA.2.2.1
  have hpl : ∀ i, i ≤ L → pa i < (W * H * D) := fun i hi => pz_pth_lt hp hi
  obtain ⟨c1, c2, c3, c4, c5, ⟨c6, c7⟩, c8, c9, c10, c11, c12⟩ := hc
  obtain ⟨m1, m2, m3, m4, m5, m6, m7, ⟨m8, m9⟩, m10, m11, m12, m13, m14⟩ := hm
  have hxx : x' = x := by
    apply b_ext
    intro i hi
    have hb : bt x' i = true ↔ bt x i = true := by
      rw [m14 i hi, c12 i hi]
      constructor
      · rintro ⟨j, hj, h1, h2⟩
        refine ⟨j, hj, h1, ?_⟩
        rw [(pr_fgT hR0 (hpl j (by omega)) h1).2.1] at h2
        rw [hS1, pz_ga_sA]
        exact h2
      · rintro ⟨j, hj, h1, h2⟩
        refine ⟨j, hj, h1, ?_⟩
        rw [(pr_fgT hR0 (hpl j (by omega)) h1).2.1]
        rw [hS1, pz_ga_sA] at h2
        exact h2
    cases ha : bt x' i <;> cases hb2 : bt x i <;> simp [ha, hb2] at hb ⊢
  subst hxx
  have sa : ∀ r, r ≠ 10 → r ≠ 16 → r ≠ 22 → r ≠ 24 → zz_ga S' r = zz_ga S r := by
    intro r h1 h2 h3 h4
    rw [c3 r h1 h2 h3 h4, hS1, pz_ga_sA]
  have sh : ∀ c, c < (W * H * D) → zz_ga S' 10 c = pz_rp x' nn (zz_ga S 10) (zz_ga S 9) c := by
    intro c hc
    rw [c9 c hc, hS1, pz_ga_sA, pz_ga_sA]
  have sl : ∀ n, n < 12 → zz_ga S' 22 n = if n < nn ∧ bt x' n = true then 0 else zz_ga S 22 n := by
    intro n hn
    rw [c10 n hn, hS1, pz_ga_sA]
  have sr : ∀ n, n < 12 → zz_ga S' 24 n = if n < nn ∧ bt x' n = true then zz_ga S 24 n + 1 else zz_ga S 24 n := by
    intro n hn
    rw [c11 n hn, hS1, pz_ga_sA]
  have sg : ∀ i, i ≠ 7 → zz_gi S' i = zz_gi S i := by
    intro i hi
    rw [c1 i hi, hS1, pz_gi_sA]
  have hxk : bt x' k = false := by
    cases hb : bt x' k
    · rfl
    · obtain ⟨j, hj, h1, h2⟩ := (m14 k (by omega)).mp hb
      rw [(pr_fgT hR0 (hpl j (by omega)) h1).2.1] at h2
      exact absurd h2 (pr_e_fg.mp h1).2
  have hol : ∀ c, c < (W * H * D) → (zz_ga S 10 c = -1 ∨ zz_ga S 10 c = nI k) → zz_ga S' 10 c = zz_ga S 10 c := by
    intro c hc h
    rw [sh c hc]
    rcases h with h | h
    · rw [pr_rp_m h, h]
    · exact pr_rp_b (by omega) h (by rw [hxk]; simp)
  have holn : ∀ c n, c < (W * H * D) → n < 12 → zz_ga S' 10 c = nI n → zz_ga S 10 c = nI n ∧ (n < nn → bt x' n = true → zz_ga S 9 c ≠ 0) := by
    intro c n hc hn h
    rw [sh c hc] at h
    exact pr_rp_n (by omega) h
  have hTt : ∀ c, pz_Tt (ts + L) (pz_cat ts tr pa) c ↔ (pz_Tt ts tr c ∨ ∃ j, j < L ∧ pa j = c) := fun c => pr_Tt_cat
  refine ⟨⟨hs, ?_, ?_, ?_, ?_, ?_, ?_, ?_⟩, ?_⟩
  · obtain ⟨a1, a2, a3, a4, a5, a6, a7⟩ := hA
    unfold pz_cgeo at a1
    unfold pz_mgeo at a2
    unfold pr_A pz_cgeo pz_mgeo
    rw [sg 2 (by decide), sg 3 (by decide), sg 4 (by decide), sg 5 (by decide), sg 6 (by decide), sg 0 (by decide), sg 1 (by decide), m1 1, m1 2, m1 3, m1 4, m1 5, m2 0, c2 0, hS1, pz_gl_sA]
    exact ⟨a1, a2, a3, a4, a5, a6, a7⟩
  · intro c hc
    obtain ⟨b1, b2, -⟩ := hB c hc
    have hh := pr_hist hR0 hq (j := k) hc
    rw [m3 5 (by decide) (by decide) (by decide) (by decide) (by decide) (by decide), m3 4 (by decide) (by decide) (by decide) (by decide) (by decide) (by decide), sa 8 (by decide) (by decide) (by decide) (by decide), sa 9 (by decide) (by decide) (by decide) (by decide)]
    refine ⟨b1, b2, _, ?_, c8 c hc, m10 c hc⟩
    split <;> omega
  · intro l hl
    rw [m3 7 (by decide) (by decide) (by decide) (by decide) (by decide) (by decide), m3 8 (by decide) (by decide) (by decide) (by decide) (by decide) (by decide), m3 9 (by decide) (by decide) (by decide) (by decide) (by decide) (by decide), sa 13 (by decide) (by decide) (by decide) (by decide), sa 14 (by decide) (by decide) (by decide) (by decide), sa 15 (by decide) (by decide) (by decide) (by decide)]
    exact hC l hl
  · intro n hn
    obtain ⟨d1, ⟨d2, d3⟩, d4, d5, d6, d7⟩ := hD n hn
    rw [m3 1 (by decide) (by decide) (by decide) (by decide) (by decide) (by decide), m3 15 (by decide) (by decide) (by decide) (by decide) (by decide) (by decide), sa 21 (by decide) (by decide) (by decide) (by decide), sa 23 (by decide) (by decide) (by decide) (by decide), m12 n hn, sl n hn, m13 n hn, sr n hn]
    refine ⟨d1, ⟨?_, ?_⟩, ?_, ?_, d6, d7⟩
    · rw [d2]
    · split
      · exact Or.inl rfl
      · exact d3
    · rw [m5, c4 21 (by decide), hS1, pz_gA_sA]
      by_cases e1 : n = k
      · subst e1
        rw [pk_uLs, pk_uLs, d4, hpr]
      · rw [pk_uLn e1, pk_uLn e1]
        exact d4
    · rw [d5]
  · intro n hn
    obtain ⟨e1, e2⟩ := hE n hn
    refine ⟨fun p hp => ?_, e2⟩
    obtain ⟨f1, f2, f3, f4, f5⟩ := e1 p hp
    rw [c5 n, hS1, pz_gp_sA, m3 2 (by decide) (by decide) (by decide) (by decide) (by decide) (by decide), sa 9 (by decide) (by decide) (by decide) (by decide), sh _ f3, pr_rp_p f4]
    exact ⟨f1, f2, f3, f4, f5⟩
  · intro c hc
    obtain ⟨f1, f2, f3, f4⟩ := hF c hc
    rw [sa 9 (by decide) (by decide) (by decide) (by decide), m11 c hc]
    refine ⟨fun hT => ?_, fun hT => ?_, ?_, f4⟩
    · rw [hTt] at hT
      have h1 : ¬ pz_Tt ts tr c := fun h => hT (Or.inl h)
      have h2 : ¬ ∃ j, j < L ∧ pa j = c := fun h => hT (Or.inr h)
      rw [if_neg h2, sh c hc]
      exact pr_rp_c (f1 h1) (hB c hc).2.1
    · by_cases h2 : ∃ j, j < L ∧ pa j = c
      · rw [if_pos h2]
        refine ⟨rfl, ?_⟩
        obtain ⟨j, hj, rfl⟩ := h2
        by_cases hf : pe_fg (pr_e k S) (pa j) = true
        · obtain ⟨-, -, o, ho, hoc⟩ := pr_fgT hR0 hc hf
          refine Or.inl ?_
          rw [sh _ hc]
          refine pr_rp_y (o := o) (by omega) hoc ho ((m14 o (by omega)).mpr ⟨j, hj, hf, ?_⟩) ?_
          · rw [(pr_fgT hR0 hc hf).2.1]; exact hoc
          · obtain ⟨-, hcan, -⟩ := hp.1 j hj
            unfold pz_can at hcan
            rw [hf] at hcan
            have : pe_pin (pr_e k S) (pa j) = 0 := by
              simp only [Bool.not_true, Bool.false_or, Bool.and_eq_true, decide_eq_true_eq] at hcan
              exact hcan.2.2
            exact this
        · rw [pr_e_fg] at hf
          have : zz_ga S 10 (pa j) = -1 ∨ zz_ga S 10 (pa j) = nI k := by
            by_cases h : zz_ga S 10 (pa j) = -1
            · exact Or.inl h
            · by_cases h' : zz_ga S 10 (pa j) = nI k
              · exact Or.inr h'
              · exact absurd ⟨h, h'⟩ hf
          rw [hol _ hc this]
          exact this
      · rw [if_neg h2]
        have h1 : pz_Tt ts tr c := by
          rcases (hTt c).mp hT with h | h
          · exact h
          · exact absurd h h2
        obtain ⟨g1, g2⟩ := f2 h1
        rw [hol c hc g2]
        refine ⟨?_, g2⟩
        rw [pr_rp_b (o := k) (by omega) g1 (by rw [hxk]; simp)]
        exact g1
    · rw [sh c hc]
      rcases f3 with h | ⟨o, ho, h⟩
      · exact Or.inl (pr_rp_m h)
      · unfold pz_rp
        split
        · exact Or.inl rfl
        · exact Or.inr ⟨o, ho, h⟩
  · intro n hn
    obtain ⟨g1, g2⟩ := hG n hn
    rw [sl n hn]
    refine ⟨fun h0 c hc hcn => ?_, fun h0 => ?_⟩
    · obtain ⟨h1, h2⟩ := holn c n hc hn hcn
      rw [sa 9 (by decide) (by decide) (by decide) (by decide)]
      by_cases hb : n < nn ∧ bt x' n = true
      · exact h2 hb.1 hb.2
      · rw [if_neg hb] at h0
        exact g1 h0 c hc h1
    · have hb : ¬ (n < nn ∧ bt x' n = true) := by
        intro hb
        rw [if_pos hb] at h0
        exact h0 rfl
      rw [if_neg hb] at h0
      have hnk : n ≠ k := by
        intro h
        subst h
        exact h0 t6
      obtain ⟨us, ut, u1, u2, u3, u4⟩ := g2 h0
      refine ⟨us, ut, u1, ?_, ?_, ?_⟩
      · rw [m7 n hn, if_neg hnk, if_neg hb]
        exact u2
      · intro i hi
        obtain ⟨v1, v2, v3, v4⟩ := u3 i hi
        refine ⟨v1, ?_, ?_, ?_⟩
        · rw [m9 _ (by omega)]
          exact v2
        · rw [sh _ v1, pr_rp_b (o := n) (by omega) v3 hb]
          exact v3
        · rw [sa 11 (by decide) (by decide) (by decide) (by decide)]
          exact v4
      · intro c hc hcn
        exact u4 c hc (holn c n hc hn hcn).1
  · refine ⟨⟨c6, hroom, ?_⟩, ?_, ?_, ?_, ?_, ?_, ?_⟩
    · intro i hi
      refine ⟨c7 i hi, ?_⟩
      by_cases h : i < ts
      · rw [pz_cat_l h]
        exact (t1.2.2 i h).2
      · have e1 : i = ts + (i - ts) := by omega
        rw [e1, pz_cat_r]
        exact hpl _ (by omega)
    · rw [m7 k (by omega), if_pos rfl]
    · intro i hi
      by_cases h : i < ts
      · rw [pz_cat_l h, m9 _ (by omega)]
        exact t3 i h
      · have e1 : i = ts + (i - ts) := by omega
        rw [e1, pz_cat_r]
        exact m8 _ (by omega)
    · intro c hc
      rw [m6 c hc, hTt]
      by_cases h : ∃ j, j < L ∧ pa j = c
      · rw [if_pos h]
        constructor
        · intro h'; exact absurd h' (by decide)
        · intro h'; exact absurd (Or.inr h) h'
      · rw [if_neg h, t4 c hc]
        constructor
        · rintro h1 (h2 | h2)
          · exact h1 h2
          · exact h h2
        · exact fun h1 h2 => h1 (Or.inl h2)
    · exact pr_cat_inj t5 (fun i j hi hj h => pz_pth_inj hp (by omega) (by omega) h) hpT
    · rw [sl k (by omega), t6]
      split <;> rfl
    · rw [sa 23 (by decide) (by decide) (by decide) (by decide)]
      exact t7

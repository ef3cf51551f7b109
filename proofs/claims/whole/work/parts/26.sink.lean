theorem pz_c_sink {S : zz_St} {d t : Nat → Int64} {h s : Nat → Int32} {N z n y : Nat} {K : Nat → Nat} {A : Nat → Nat} {B : Nat → Option Nat} (hz : z ≤ 1024) (hN : 2000 ≤ N) (hy : y < z) (hn : n ≤ z) (h0n : 0 < n)
    (hstr : pz_str z n A B) (hk : pz_key z d K B) (hdn : pz_dn1 (fun i => K (A i)) 0 n) (hA0 : A 0 = y) (hh : ∀ i, i < n → i ≠ 0 → h i = nI (A i)) (hss : ∀ c, c < z → c ≠ y → s c = pz_o (B c)) :
    pz_T (zf_X0_sinkFromTop N z (pz_cs S (nI n) d t h s) (nI y)) (fun S' => ∃ B' h' s', S' = pz_cs S (nI n) d t h' s' ∧ pz_heap z n K B' h' s' ∧ ∀ c, c < z → (B' c).isSome = (B c).isSome) := by
  unfold zf_X0_sinkFromTop
  rw [pz_T_let, pz_T_let]
  refine pz_fixm3 (fun m v7 v8 S9 => ∃ a l h s A B', n - a = m ∧ v7 = nI a ∧ v8 = nI l ∧ S9 = pz_cs S (nI n) d t h s ∧ a < n ∧ l ≤ 32 ∧ 2 ^ l ≤ a + 1 ∧ pz_str z n A B' ∧ (∀ c, c < z → (B' c).isSome = (B c).isSome) ∧ pz_dn1 (fun i => K (A i)) a n ∧ A a = y ∧ (∀ i, i < n → i ≠ a → h i = nI (A i)) ∧ (∀ c, c < z → c ≠ y → s c = pz_o (B' c))) ?_ N n _ _ _ ⟨0, 0, h, s, A, B, rfl, rfl, rfl, rfl, h0n, by omega, by simp, hstr, fun _ _ => rfl, hdn, hA0, hh, hss⟩ (by omega)
  rintro rc m _ _ _ ⟨a, l, h2, s2, A2, B', rfl, rfl, rfl, rfl, han2, hl, hpow, hstr', hsome, hdn', hAa2, hh2, hss2⟩ hrc
  have hdone : (∀ i, 0 < i → i < n → (i - 1) / 2 = a → K y ≤ K (A2 i)) → pz_T (zf_X0_seatAt N z (pz_cs S (nI n) d t h2 s2) (nI a) (nI y)) (fun S' => ∃ B' h' s', S' = pz_cs S (nI n) d t h' s' ∧ pz_heap z n K B' h' s' ∧ ∀ c, c < z → (B' c).isSome = (B c).isSome) := by
    intro hor
    rw [pz_T_eq (pz_c_seatAt (by omega) hy hz)]
    refine ⟨B', _, _, rfl, ⟨A2, hstr', ?_, ?_, ?_⟩, hsome⟩
    · intro i hi hin
      by_cases e : (i - 1) / 2 = a
      · dsimp only; rw [e, hAa2]; exact hor i hi hin e
      · exact hdn'.1 i hi hin e
    · intro i hi
      by_cases e : i = a
      · subst e; rw [pk_us, hAa2]
      · rw [pk_un e]; exact hh2 i hi e
    · intro c hc
      by_cases e : c = y
      · subst e
        have := (hstr'.1 a han2).2
        rw [hAa2] at this
        rw [pk_us, this, pz_o_s]
      · rw [pk_un e]; exact hss2 c hc e
  have hl10 : l < 32 := by
    by_cases h : l < 32
    · exact h
    · have h1 : 2 ^ 32 ≤ 2 ^ l := Nat.pow_le_pow_right (by decide) (by omega)
      omega
  have hyin := hstr'.1 a han2
  rw [hAa2] at hyin
  have ky := hk y hy (by rw [← hsome _ hy, hyin.2]; rfl)
  simp only [pz_T_jn1, pz_T_ite]
  refine ⟨fun h32 => ?_, fun h32 => ⟨fun ha0 => ?_, fun ha0 => ?_⟩⟩
  · rw [pz_c32a (by omega)] at h32
    omega
  · rw [pz_cs_gi8, pz_2m, nI_1, pz_leI (by omega) (by omega)] at ha0
    rw [pz_T_b1]
    refine pz_T_mono (hdone (fun i hi hin hia => by omega)) (fun r hr => pz_T_some.mpr hr)
  · rw [pz_cs_gi8, pz_2m, nI_1, pz_leI (by omega) (by omega)] at ha0
    rw [pz_T_let, pz_2m, nI_1]
    refine pz_T_jn1_cut (fun v => ∃ b, v = nI b ∧ b < n ∧ 0 < b ∧ (b - 1) / 2 = a ∧ ∀ i, 0 < i → i < n → (i - 1) / 2 = a → K (A2 b) ≤ K (A2 i)) ?_ ?_
    · rintro _ ⟨b, rfl, hbn, hb0, hba, hmin⟩
      have hbb := hstr'.1 b hbn
      have kb := hk _ hbb.1 (by rw [← hsome _ hbb.1, hbb.2]; rfl)
      have hhb := hh2 b hbn (by omega)
      simp only [pz_T_ite, pz_T_gd, pz_T_jn1, pz_T_jn2, pz_T_some, pz_T_let, pz_T_b1, pz_T_b2]
      simp (disch := omega) only [pz_cs_gi8, pz_cs_gi, pz_cs_gl, pz_cs_ga19, pz_cs_ga20, pz_cs_ga, pz_cs_gA17, pz_cs_gA18, pz_cs_gA, pz_cs_gp, pz_cs_si8, pz_cs_sa19, pz_cs_sa20, pz_cs_sA17, pz_cs_sA18, pz_in, nI_clampI, nI_1, hhb, pz_l_gt, kb.1, ky.1, pz_lN_lt]
      refine ⟨hy, by omega, hbb.1, fun hgt => ⟨by omega, ?_⟩, fun hng => hdone (fun i hi hin hia => by have := hmin i hi hin hia; omega)⟩
      rw [pz_T_eq (pz_c_seatAt (by omega) hbb.1 hz)]
      refine hrc (n - b) _ _ _ (by omega) ⟨b, l + 1, _, _, pz_swA A2 b a, pz_swB A2 B' b a, rfl, rfl, rfl, rfl, by omega, by omega, ?_, pz_str_sw hstr' (by omega) han2, ?_, ?_, ?_, ?_, ?_⟩
      · rw [Nat.pow_succ]
        omega
      · intro c hc
        rw [pz_sw_some hstr' (by omega) han2]
        exact hsome c hc
      · have := pz_dn1_step hdn' hbn ⟨hb0, hba⟩ hmin (by rw [hAa2]; exact hgt)
        have he : (fun i => K (pz_swA A2 b a i)) = pz_swA (fun i => K (A2 i)) b a := by
          funext i
          unfold pz_swA
          by_cases e1 : i = b
          · simp [e1]
          · by_cases e2 : i = a
            · subst e2; simp [e1]
            · simp [e1, e2]
        rw [he]
        exact this
      · simp [pz_swA, hAa2]
      · intro i hi hip
        unfold pz_swA
        rw [if_neg hip]
        by_cases e : i = a
        · subst e; rw [pk_us, if_pos rfl]
        · rw [pk_un e, if_neg e]; exact hh2 i hi e
      · intro c hc hcx
        unfold pz_swB
        rw [hAa2, if_neg hcx]
        by_cases e : c = A2 b
        · rw [if_pos e, e, pk_us, pz_o_s]
        · rw [if_neg e, pk_un e]; exact hss2 c hc hcx
    · intro j hj
      have hb1 := hstr'.1 (2 * a + 1) (by omega)
      have k1 := hk _ hb1.1 (by rw [← hsome _ hb1.1, hb1.2]; rfl)
      have hh1 := hh2 (2 * a + 1) (by omega) (by omega)
      simp only [pz_T_ite, pz_T_gd, pz_T_jn1, pz_T_jn2, pz_T_some, pz_T_let, pz_T_b1, pz_T_b2]
      simp (disch := omega) only [pz_cs_gi8, pz_cs_gi, pz_cs_gl, pz_cs_ga19, pz_cs_ga20, pz_cs_ga, pz_cs_gA17, pz_cs_gA18, pz_cs_gA, pz_cs_gp, pz_cs_si8, pz_cs_sa19, pz_cs_sa20, pz_cs_sA17, pz_cs_sA18, nI_1, pz_leI]
      refine ⟨fun hle => hj _ ⟨2 * a + 1, rfl, by omega, by omega, by omega, ?_⟩, fun hgt => ?_⟩
      · intro i hi hin hia
        have : i = 2 * a + 1 := by omega
        rw [this]
        exact Nat.le_refl _
      · have hb2 := hstr'.1 (2 * a + 1 + 1) (by omega)
        have k2 := hk _ hb2.1 (by rw [← hsome _ hb2.1, hb2.2]; rfl)
        have hh3 := hh2 (2 * a + 1 + 1) (by omega) (by omega)
        simp (disch := omega) only [pz_in, nI_clampI, hh1, hh3, pz_l_ge, k1.1, k2.1, pz_lN_le]
        refine ⟨by omega, hb2.1, by omega, hb1.1, fun hle => hj _ ⟨2 * a + 1, rfl, by omega, by omega, by omega, ?_⟩, fun hle => hj _ ⟨2 * a + 1 + 1, rfl, by omega, by omega, by omega, ?_⟩⟩
        · intro i hi hin hia
          have : i = 2 * a + 1 ∨ i = 2 * a + 1 + 1 := by omega
          rcases this with rfl | rfl
          · exact Nat.le_refl _
          · exact hle
        · intro i hi hin hia
          have : i = 2 * a + 1 ∨ i = 2 * a + 1 + 1 := by omega
          rcases this with rfl | rfl
          · omega
          · exact Nat.le_refl _
theorem pz_c_take {S : zz_St} {d t : Nat → Int64} {h s : Nat → Int32} {N z n : Nat} {K : Nat → Nat} {B : Nat → Option Nat} (hz : z ≤ 1024) (hN : 2000 ≤ N) (hh : pz_heap z n K B h s) (h0 : 0 < n) (hk : pz_key z d K B) :
    pz_T (zf_X0_takeNearest N z (pz_cs S (nI n) d t h s)) (fun r => ∃ x B' h' s', x < z ∧ (B x).isSome = true ∧ (∀ c, c < z → (B c).isSome = true → K x ≤ K c) ∧ r = (nI x, pz_cs S (nI (n - 1)) d t h' s') ∧ pz_heap z (n - 1) K B' h' s' ∧ ∀ c, c < z → (B' c).isSome = ((B c).isSome && decide (c ≠ x))) := by
  obtain ⟨A, hstr, hord, hr1, hr2⟩ := hh
  have hnz : n ≤ z := by
    rw [hstr.2.2]; exact pz_cnt_le _ _
  have ha := hstr.1 0 h0
  have htop : ∀ c, c < z → (B c).isSome = true → K (A 0) ≤ K c := by
    intro c hc hs
    obtain ⟨i, hi⟩ := Option.isSome_iff_exists.mp hs
    have h1 := hstr.2.1 c i hc hi
    have h2 := pz_ord_top hord i h1.1
    rw [h1.2] at h2
    exact h2
  unfold zf_X0_takeNearest
  simp only [pz_T_ite, pz_T_gd, pz_T_jn1, pz_T_jn2, pz_T_some, pz_T_let, pz_T_b1, pz_T_b2]
  simp (disch := omega) only [pz_cs_gi8, pz_cs_gi, pz_cs_gl, pz_cs_ga19, pz_cs_ga20, pz_cs_ga, pz_cs_gA17, pz_cs_gA18, pz_cs_gA, pz_cs_gp, pz_cs_si8, pz_cs_sa19, pz_cs_sa20, pz_cs_sA17, pz_cs_sA18, pz_zcl, hr1 0 h0, nI_clampI, pz_in, pz_c0c, pz_sub1]
  have hin0 : zz_in (0 : Int32) z = true := by
    have : zz_in (nI 0) z = true := by rw [pz_in (by omega)]; omega
    exact this
  have hinj : ∀ i, i < n → ∀ j, j < n → A i = A j → i = j := by
    intro i hi j hj he
    have a := (hstr.1 i hi).2
    have b := (hstr.1 j hj).2
    rw [he, b] at a
    cases a
    rfl
  refine ⟨hin0, ha.1, fun hle => by omega, fun _ => ⟨fun h1 => ?_, fun h1 => ⟨by omega, ?_⟩⟩⟩
  · have hn1 : n = 1 := by omega
    subst hn1
    refine ⟨A 0, fun c => if c = A 0 then none else B c, _, _, ha.1, by rw [ha.2]; rfl, htop, rfl, ⟨A, ⟨fun i hi => by omega, ?_, ?_⟩, fun i hi hin => by omega, fun i hi => by omega, ?_⟩, ?_⟩
    · intro c i hc hb
      dsimp only at hb
      split at hb
      · cases hb
      · rename_i hne
        have := hstr.2.1 c i hc hb
        have : i = 0 := by omega
        subst this
        exact absurd (hstr.2.1 c 0 hc hb).2.symm hne
    · have := pz_cnt_one (P := fun c => (if c = A 0 then none else B c).isSome) (Q := fun c => (B c).isSome) (n := z) (c0 := A 0) (fun c _ hc => by simp [hc]) ha.1 (by simp) (by simp [ha.2])
      have h8 := hstr.2.2
      show 1 - 1 = pz_cnt (fun c => (if c = A 0 then none else B c).isSome) z
      omega
    · intro c hc
      show upd s (A 0) (-1) c = pz_o (if c = A 0 then none else B c)
      by_cases e : c = A 0
      · rw [e, pk_us, if_pos rfl, pz_o_n]
      · rw [pk_un e, if_neg e]; exact hr2 c hc
    · intro c hc
      by_cases e : c = A 0
      · simp [e]
      · simp [e]
  · have hl := hstr.1 (n - 1) (by omega)
    have hne : A (n - 1) ≠ A 0 := fun he => by have := hinj _ (by omega) _ h0 he; omega
    rw [hr1 (n - 1) (by omega)]
    refine pz_T_mono (pz_c_sink (A := fun i => if i = 0 then A (n - 1) else A i) (B := fun c => if c = A (n - 1) then some 0 else if c = A 0 then none else B c) (K := K) hz hN hl.1 (by omega) (by omega) ⟨?_, ?_, ?_⟩ ?_ ⟨?_, ?_⟩ (by simp) ?_ ?_) ?_
    · intro i hi
      by_cases e : i = 0
      · subst e; simp [hl.1]
      · simp only [e, if_false]
        refine ⟨(hstr.1 i (by omega)).1, ?_⟩
        rw [if_neg (fun he => by have := hinj _ (by omega) _ (by omega) he; omega), if_neg (fun he => by have := hinj _ (by omega) _ (by omega) he; omega)]
        exact (hstr.1 i (by omega)).2
    · intro c i hc hb
      dsimp only at hb
      by_cases e1 : c = A (n - 1)
      · rw [if_pos e1] at hb
        cases hb
        simp [e1]
        omega
      · rw [if_neg e1] at hb
        by_cases e2 : c = A 0
        · rw [if_pos e2] at hb; cases hb
        · rw [if_neg e2] at hb
          have h2 := hstr.2.1 c i hc hb
          have i0 : i ≠ 0 := fun he => e2 (by rw [← h2.2, he])
          have i1 : i ≠ n - 1 := fun he => e1 (by rw [← h2.2, he])
          refine ⟨by omega, ?_⟩
          simp only [i0, if_false]
          exact h2.2
    · have := pz_cnt_one (P := fun c => (if c = A (n - 1) then some 0 else if c = A 0 then none else B c).isSome) (Q := fun c => (B c).isSome) (n := z) (c0 := A 0) (fun c _ hc => by
        by_cases e1 : c = A (n - 1)
        · simp [e1, hl.2]
        · simp [e1, hc]) ha.1 (by simp [Ne.symm hne]) (by simp [ha.2])
      have h8 := hstr.2.2
      show n - 1 = pz_cnt (fun c => (if c = A (n - 1) then some 0 else if c = A 0 then none else B c).isSome) z
      omega
    · intro c hc hs
      apply hk c hc
      dsimp only at hs
      by_cases e1 : c = A (n - 1)
      · rw [e1, hl.2]; rfl
      · rw [if_neg e1] at hs
        by_cases e2 : c = A 0
        · rw [if_pos e2] at hs; cases hs
        · rw [if_neg e2] at hs; exact hs
    · intro i hi hin hia
      have : ¬ i = 0 := by omega
      simp only [hia, this, if_false]
      exact hord i hi (by omega)
    · intro h; omega
    · intro i hi hi0
      simp only [hi0, if_false]
      exact hr1 i (by omega)
    · intro c hc hcy
      rw [if_neg hcy]
      by_cases e : c = A 0
      · rw [e, pk_us, if_pos rfl, pz_o_n]
      · rw [pk_un e, if_neg e]; exact hr2 c hc
    · rintro S' ⟨B', h', s', rfl, hheap, hsome⟩
      refine ⟨A 0, B', h', s', ha.1, by rw [ha.2]; rfl, htop, rfl, hheap, ?_⟩
      intro c hc
      rw [hsome c hc]
      by_cases e1 : c = A (n - 1)
      · subst e1; simp [hl.2, hne]
      · by_cases e2 : c = A 0
        · subst e2; simp [e1]
        · simp [e1, e2]

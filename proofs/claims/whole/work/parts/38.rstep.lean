theorem pr_mn0 {E : Nat → Nat → Nat → Prop} {T : Nat → Prop} {c : Nat} (hE : ∀ b c w, E b c w → 0 < w) : pz_mn E T c 0 ↔ T c := by
  constructor
  · intro h
    rcases pz_mn_last h with ⟨h1, -⟩ | ⟨b, a, w, -, he, h0⟩
    · exact h1
    · have := hE b c w he
      omega
  · intro h
    exact ⟨pz_D_tree h, fun u _ => Nat.zero_le u⟩
theorem pr_own {W H D nn q : Nat} {pc : Nat → Nat} {pn : Nat → Nat → Nat} {k : Nat} {T : Nat → Prop} {S M : zz_St} (hR : pr_R W H D nn q pc pn k T S M) (hk : k < 12) (h22 : zz_ga S 22 k = 0) {x : Nat} (hx : x < (W * H * D)) (hox : zz_ga S 10 x = nI k) : ∃ p, p < pc k ∧ pn k p = x := by
  obtain ⟨hs, hA, hB, hC, hD, hE, hF, hG⟩ := hR
  have h9 := (hG k hk).1 h22 x hx hox
  obtain ⟨n, p, hn, hp, rfl⟩ := (hF x hx).2.2.2 h9
  have h10 := ((hE n hn).1 p hp).2.2.2.2
  rw [hox, pz_eqI (by omega) (by omega)] at h10
  subst h10
  exact ⟨p, hp, rfl⟩
theorem pr_step {W H D nn q : Nat} {pc : Nat → Nat} {pn : Nat → Nat → Nat} {k ts N : Nat} {tr : Nat → Nat} {S M : zz_St} {rip : Bool} {d d' : Nat → Option Nat} {x ds : Nat} (hR : pr_R W H D nn q pc pn k (pz_Tt ts tr) S M) (ht : pr_t (W * H * D) k ts tr S M) (hk : k < nn) (hq : q ≤ 1000000000) (hN : 2000 ≤ N)
    (hrow : pz_row (W * H * D) (zz_gA S 17) d) (hrb : pz_rb (W * H * D) d) (hok : pz_ok (pz_E W H D (pr_e k S) rip) (pz_Tt ts tr) d) (htl : pz_tolls (W * H * D) (pr_e k S) rip (zz_gA S 18) (pz_tl W H D (pr_e k S) rip))
    (hx : x < (W * H * D)) (hox : zz_ga S 10 x = nI k) (hds : 0 < ds) (hdx : d x = some ds) (hex : ∀ c u, u ≤ ds → (d c = some u ↔ pz_mn (pz_E W H D (pr_e k S) rip) (pz_Tt ts tr) c u)) (hown : ∀ c u, c < (W * H * D) → zz_ga S 10 c = nI k → d c = some u → u = 0 ∨ ds ≤ u)
    (hrow' : pz_row (W * H * D) (zz_gA M 16) d') (hrb' : pz_rb (W * H * D) d') (hex' : ∀ c u, d' c = some u ↔ pz_mn (pz_E W H D (pr_e k S) rip) (pz_Tt ts tr) c u) :
    ∃ x0, x0 < (W * H * D) ∧ zf_X4_nearestPin N (W * H * D) S k = some (nI x0) ∧ zf_X7_nextPin N M (nI k) = some (nI x0) ∧
      pz_T (zf_X6_joinFrom N (W * H * D) (zz_sA S 21 (vp_updL (zz_gA S 21) k (zz_gA S 21 k + zz_gA S 17 x0))) (nI x0) (nI k)) (fun p => pz_T (zf_X6_ripUp N (W * H * D) p.2 p.1) (fun S' =>
        pz_T (zf_X7_join N M (nI k) (nI x0) (pz_b rip)) (fun M' => ∃ ts' tr', pr_R W H D nn (q + 1) pc pn k (pz_Tt ts' tr') S' M' ∧ pr_t (W * H * D) k ts' tr' S' M' ∧ pr_pm (pc k) (pn k) ts' tr' = pr_pm (pc k) (pn k) ts tr + 1 ∧ zz_ga S' 7 = zz_ga S 7 ∧ zz_ga M' 18 = zz_ga M 18 ∧ zz_gi M' 0 = zz_gi M 0))) := by
  have hR0 := hR
  have ht0 := ht
  have he := pr_ev hR0 hq k
  obtain ⟨hs, hA, hB, hC, hD, hE, hF, hG⟩ := hR
  obtain ⟨t1, t2, t3, t4, t5, t6, t7⟩ := ht
  have hz := hs.2.2.2.2.1
  have hnn := hA.2.2.1
  have hk12 : k < 12 := by omega
  have hEp : ∀ b c w, (pz_E W H D (pr_e k S) rip) b c w → 0 < w := fun b c w h => (pz_E_ok he h).2
  obtain ⟨p, hp, hpx⟩ := pr_own hR0 hk12 t6 hx hox
  have hpin : ∀ p, p < pc k → zz_gp S k p = nI (pn k p) ∧ zz_ga M 2 (5 * k + p) = nI (pn k p) ∧ pn k p < (W * H * D) ∧ zz_ga S 9 (pn k p) ≠ 0 ∧ zz_ga S 10 (pn k p) = nI k := (hE k hk12).1
  obtain ⟨p0, hp0, hdp0, hb1, hb2⟩ := pr_bst (pn := pn k) (pc := pc k) (p := p) hex hex' hp (by rw [hpx]; exact hdx) hds (fun q u hq hu => hown _ u (hpin q hq).2.2.1 (hpin q hq).2.2.2.2 hu)
  have hd := hD k hk12
  have h17 : ∀ c, c < (W * H * D) → (zz_ga M 17 c = 0 ↔ d' c ≠ some 0) := by
    intro c hc
    rw [t4 c hc, Ne, hex' c 0, pr_mn0 hEp]
  obtain ⟨L, pa, hpa0, hpth⟩ := pz_pth_ex he hex (fun c u h => (hrb c u h).1) hok.2 ds (pn k p0) hdp0 (Nat.le_refl _)
  have hpa : d (pa 0) = some ds := by rw [hpa0]; exact hdp0
  have hpth' := pr_pth hex hex' hpth hpa
  have hL : 0 < L := by
    rcases Nat.eq_zero_or_pos L with h | h
    · subst h
      have := hpth.2.1
      rw [hpa] at this
      cases this
      omega
    · exact h
  have hpd : ∀ j, j < L → ∃ v, d (pa j) = some v ∧ 0 < v := by
    intro j hj
    obtain ⟨-, -, v, u, h1, h2, -⟩ := hpth.1 j hj
    exact ⟨v, h1, h2⟩
  have hpT : ∀ j, j < L → ¬ pz_Tt ts tr (pa j) := by
    intro j hj hT
    obtain ⟨v, h1, h2⟩ := hpd j hj
    rw [hok.2 _ hT] at h1
    cases h1
    omega
  have hpl : ∀ i, i ≤ L → pa i < (W * H * D) := fun i hi => pz_pth_lt hpth hi
  have hinj := pr_cat_inj t5 (fun i j hi hj h => pz_pth_inj hpth (by omega) (by omega) h) hpT
  have hroom : ts + L ≤ (W * H * D) := by
    refine pz_room (f := pz_cat ts tr pa) ?_ hinj
    intro i hi
    by_cases h : i < ts
    · rw [pz_cat_l h]
      exact (t1.2.2 i h).2
    · have e1 : i = ts + (i - ts) := by omega
      rw [e1, pz_cat_r]
      exact hpl _ (by omega)
  have hcv := pr_cenv hR0 hq k
  have hmv := pr_menv hR0 hq
  have hh : ∀ c, c < (W * H * D) → zz_ga S 10 c = -1 ∨ ∃ o, o < 32 ∧ zz_ga S 10 c = nI o := by
    intro c hc
    rcases (hF c hc).2.2.1 with h | ⟨o, ho, h⟩
    · exact Or.inl h
    · exact Or.inr ⟨o, by omega, h⟩
  have hh' : ∀ c, c < (W * H * D) → zz_ga M 3 c = -1 ∨ ∃ o, o < 32 ∧ zz_ga M 3 c = nI o := by
    intro c hc
    by_cases hT : pz_Tt ts tr c
    · exact Or.inr ⟨k, by omega, ((hF c hc).2.1 hT).1⟩
    · rw [(hF c hc).1 hT]
      exact hh c hc
  refine ⟨pn k p0, (hpin p0 hp0).2.2.1, ?_, ?_, ?_⟩
  · rw [pz_c_nearest hz (by omega) hd.1.1 hd.1.2.1 (fun p hp => ⟨(hpin p hp).1, (hpin p hp).2.2.1⟩) hrow hrb, hb1]
    rfl
  · rw [pz_m_next hz (by omega) hk12 hd.1.1 hd.1.2.2 (fun p hp => ⟨(hpin p hp).2.1, (hpin p hp).2.2.1⟩) hrow' hrb' h17, hb2]
    rfl
  · rw [← hpa0]
    have hcv1 : pz_cenv W H D (pr_e k S) (nI k) (zz_sA S 21 (vp_updL (zz_gA S 21) k (zz_gA S 21 k + zz_gA S 17 (pa 0)))) := by
      refine ⟨hcv.1, fun c hc => ?_, hcv.2.2⟩
      rw [pz_gA_sA_n (by decide)]
      exact hcv.2.1 c hc
    refine pz_T_mono (pr_c_join (nn := nn) (tr := tr) (ts := ts) (d := d) (rip := rip) he hcv1 hN hnn hA.2.2.2.1 t1 (by rw [pz_gA_sA_n (by decide)]; exact hrow) hrb (by rw [pz_gA_sA_n (by decide)]; exact htl) hpth hroom hh) ?_
    rintro ⟨y, S24⟩ h1
    refine pz_T_mono h1 ?_
    intro S' hcj
    refine pz_T_mono (pz_m_join (nn := nn) (d := d') he hmv hN hk12 hnn hA.2.2.2.2.1 hrow' hrb' hpth' hroom t2 h17 hh') ?_
    rintro M' ⟨y', hmj⟩
    have hpr : zz_gA M 16 (pa 0) = zz_gA S 17 (pa 0) := by
      rw [hrow' _ (hpl 0 (by omega)), hrow _ (hpl 0 (by omega)), hpa, (hex' _ _).mpr ((hex _ _ (Nat.le_refl _)).mp hpa)]
    obtain ⟨r1, r2⟩ := pr_R_join hR0 ht0 hk hq rfl hpr hpth hroom hpT hcj hmj
    refine ⟨ts + L, pz_cat ts tr pa, r1, r2, ?_, ?_, ?_⟩
    · unfold pr_pm
      refine pz_cnt_one (c0 := p0) ?_ hp0 ?_ ?_
      · intro p hp hne
        have hb : pz_memb (pz_cat ts tr pa) (ts + L) (pn k p) = true ↔ pz_memb tr ts (pn k p) = true := by
          rw [pr_Tt_memb, pr_Tt_memb, pr_Tt_cat]
          constructor
          · rintro (h | ⟨j, hj, h⟩)
            · exact h
            · exfalso
              by_cases e1 : j = 0
              · subst e1
                rw [hpa0] at h
                exact hne ((hE k hk12).2 p p0 hp hp0 h.symm)
              · obtain ⟨a, b, h2, h3, h4⟩ := pz_pth_dec hpth 0 j (by omega) (by omega)
                rw [hpa] at h2
                cases h2
                obtain ⟨v, h5, h6⟩ := hpd j hj
                rw [h3] at h5
                cases h5
                rw [h] at h3
                have := hown _ _ (hpin p hp).2.2.1 (hpin p hp).2.2.2.2 h3
                omega
          · exact Or.inl
        cases ha : pz_memb (pz_cat ts tr pa) (ts + L) (pn k p) <;> cases hb2 : pz_memb tr ts (pn k p) <;> simp [ha, hb2] at hb ⊢
      · cases hb : pz_memb tr ts (pn k p0)
        · rfl
        · have := pr_Tt_memb.mp hb
          rw [← hpa0] at this
          exact absurd this (hpT 0 hL)
      · rw [pr_Tt_memb, pr_Tt_cat]
        exact Or.inr ⟨0, hL, hpa0⟩
    · rw [hcj.2.2.1 7 (by decide) (by decide) (by decide) (by decide), pz_ga_sA]
    · exact ⟨hmj.2.2.1 18 (by decide) (by decide) (by decide) (by decide) (by decide) (by decide), hmj.1 0⟩

def pr_cj (W H D : Nat) (e : pz_Env) (nn ts L : Nat) (tr pa : Nat → Nat) (x : Int32) (S S' : zz_St) : Prop :=
  (∀ i, i ≠ 7 → zz_gi S' i = zz_gi S i) ∧ (∀ i, zz_gl S' i = zz_gl S i) ∧ (∀ r, r ≠ 10 → r ≠ 16 → r ≠ 22 → r ≠ 24 → zz_ga S' r = zz_ga S r) ∧ (∀ r, r ≠ 12 → zz_gA S' r = zz_gA S r) ∧ (∀ n, zz_gp S' n = zz_gp S n) ∧
  (zz_gi S' 7 = nI (ts + L) ∧ ∀ i, i < ts + L → zz_ga S' 16 i = nI (pz_cat ts tr pa i)) ∧
  (∀ c, c < (W * H * D) → zz_gA S' 12 c = lN (if (∃ j, j < L ∧ pa j = c) ∧ pe_fg e c = true then pe_hist e c + 1 else pe_hist e c)) ∧
  (∀ c, c < (W * H * D) → zz_ga S' 10 c = pz_rp x nn (zz_ga S 10) (zz_ga S 9) c) ∧
  (∀ n, n < 12 → zz_ga S' 22 n = if n < nn ∧ bt x n = true then 0 else zz_ga S 22 n) ∧
  (∀ n, n < 12 → zz_ga S' 24 n = if n < nn ∧ bt x n = true then zz_ga S 24 n + 1 else zz_ga S 24 n) ∧
  (∀ i, i < 32 → (bt x i = true ↔ ∃ j, j < L ∧ pe_fg e (pa j) = true ∧ zz_ga S 10 (pa j) = nI i))
theorem pr_c_join {W H D : Nat} {e : pz_Env} (he : pz_ev W H D e) {k : Int32} {nn : Nat} {S : zz_St} (hm : pz_cenv W H D e k S) {N ts L : Nat} {tr pa : Nat → Nat} (hN : 2000 ≤ N) (hnn : nn ≤ 12) (h0 : zz_gi S 0 = nI nn) {rip : Bool} {d : Nat → Option Nat} (htree : pz_tree (W * H * D) ts tr S)
    (hrow : pz_row (W * H * D) (zz_gA S 17) d) (hrb : pz_rb (W * H * D) d) (ht : pz_tolls (W * H * D) e rip (zz_gA S 18) (pz_tl W H D e rip)) (hp : pz_pth W H D e rip d L pa) (hroom : ts + L ≤ (W * H * D))
    (hh : ∀ c, c < (W * H * D) → zz_ga S 10 c = -1 ∨ ∃ o, o < 32 ∧ zz_ga S 10 c = nI o) :
    pz_T (zf_X6_joinFrom N (W * H * D) S (nI (pa 0)) k) (fun p => pz_T (zf_X6_ripUp N (W * H * D) p.2 p.1) (fun S' => pr_cj W H D e nn ts L tr pa p.1 S S')) := by
  have hz := he.1.2.2.2.2.1
  have hh2 : ∀ c, c < (W * H * D) → pe_fg e c = true → ∃ o, o < 32 ∧ zz_ga S 10 c = nI o := by
    intro c hc hf
    rcases hh c hc with h | h
    · exact absurd h ((hm.2.1 c hc).2.2.1.mpr hf).1
    · exact h
  refine pz_T_mono (pz_c_joinFrom he hm hN htree hrow hrb ht hp hroom hh2) ?_
  rintro ⟨x, _⟩ ⟨m, sc, rfl, h1, h2, h3⟩
  refine pz_T_mono (pz_c_ripUp (S := pz_c4 S (nI (ts + L)) m sc) (nn := nn) (x := x) hz hN hnn (by rw [pz_c4_gi (by decide)]; exact h0) (by rw [pz_c4_gi (by decide)]; exact hm.1.2.2.2.2) (by rw [pz_c4_ga (by decide)]; exact hh)) ?_
  rintro _ ⟨f, g, h, rfl, hf, hg, hr⟩
  rw [pz_c4_ga (by decide)] at hg hr
  rw [pz_c4_ga (i := 10) (by decide), pz_c4_ga (i := 9) (by decide)] at hf
  refine ⟨?_, ?_, ?_, ?_, ?_, ⟨?_, ?_⟩, ?_, ?_, ?_, ?_, h3⟩
  · intro i hi
    rw [pz_c3_gi, pz_c4_gi hi]
  · intro i
    rw [pz_c3_gl, pz_c4_gl]
  · intro r r1 r2 r3 r4
    rw [pz_c3_ga r1 r3 r4, pz_c4_ga r2]
  · intro r r1
    rw [pz_c3_gA, pz_c4_gA r1]
  · intro n
    rw [pz_c3_gp, pz_c4_gp]
  · rw [pz_c3_gi, pz_c4_gi7]
  · intro i hi
    rw [pz_c3_ga (by decide) (by decide) (by decide), pz_c4_ga16]
    exact h1 i hi
  · intro c hc
    rw [pz_c3_gA, pz_c4_gA12]
    exact h2 c hc
  · intro c hc
    rw [pz_c3_ga10]
    exact hf c hc
  · intro n hn
    rw [pz_c3_ga22]
    exact hg n hn
  · intro n hn
    rw [pz_c3_ga24]
    exact hr n hn
/-- the two searches' first pins of the least distance -/
theorem pr_bst {E : Nat → Nat → Nat → Prop} {T : Nat → Prop} {d d' : Nat → Option Nat} {pn : Nat → Nat} {pc ds p : Nat} (hex : ∀ c u, u ≤ ds → (d c = some u ↔ pz_mn E T c u)) (hex' : ∀ c u, d' c = some u ↔ pz_mn E T c u)
    (hp : p < pc) (hpd : d (pn p) = some ds) (hds : 0 < ds) (hall : ∀ q u, q < pc → d (pn q) = some u → u = 0 ∨ ds ≤ u) :
    ∃ p0, p0 < pc ∧ d (pn p0) = some ds ∧ pz_bst d pn pc = some (pn p0) ∧ pz_bst d' pn pc = some (pn p0) := by
  rcases pz_bst_inv d pn pc with ⟨-, h⟩ | ⟨p0, v, hp0, hb, hv, hv0, hmin, hfst⟩
  · have := h p ds hp hpd; omega
  have hvds : v = ds := by
    have h1 := hmin p ds hp hpd hds
    have h2 := hall p0 v hp0 hv
    omega
  subst hvds
  have hd' : d' (pn p0) = some v := (hex' _ _).mpr ((hex _ _ (Nat.le_refl _)).mp hv)
  refine ⟨p0, hp0, hv, hb, ?_⟩
  rcases pz_bst_inv d' pn pc with ⟨-, h⟩ | ⟨p1, v1, hp1, hb1, hv1, hv10, hmin1, hfst1⟩
  · have := h p0 v hp0 hd'; omega
  have h3 := hmin1 p0 v hp0 hd' hds
  have hd1 : d (pn p1) = some v1 := (hex _ _ h3).mpr ((hex' _ _).mp hv1)
  have h4 : v1 = v := by
    have := hall p1 v1 hp1 hd1; omega
  subst h4
  have : p1 = p0 := by
    rcases Nat.lt_trichotomy p1 p0 with h | h | h
    · have := hfst p1 v1 h hd1 hv10; omega
    · exact h
    · have := hfst1 p0 v1 h hd' hds; omega
  rw [hb1, this]
theorem pr_qd {W H D : Nat} {e : pz_Env} {rip : Bool} {T : Nat → Prop} {d d' : Nat → Option Nat} {ds v c n b : Nat} (hex : ∀ c u, u ≤ ds → (d c = some u ↔ pz_mn (pz_E W H D e rip) T c u)) (hex' : ∀ c u, d' c = some u ↔ pz_mn (pz_E W H D e rip) T c u) (hv : v ≤ ds) :
    pz_qd W H D e rip d' v c n b ↔ pz_qd W H D e rip d v c n b := by
  unfold pz_qd
  constructor
  · rintro ⟨h1, u, h2, h3⟩
    exact ⟨h1, u, (hex _ _ (by omega)).mpr ((hex' _ _).mp h2), h3⟩
  · rintro ⟨h1, u, h2, h3⟩
    exact ⟨h1, u, (hex' _ _).mpr ((hex _ _ (by omega)).mp h2), h3⟩
/-- the same way in both -/
theorem pr_pth {W H D : Nat} {e : pz_Env} {rip : Bool} {T : Nat → Prop} {d d' : Nat → Option Nat} {ds L : Nat} {pa : Nat → Nat} (hex : ∀ c u, u ≤ ds → (d c = some u ↔ pz_mn (pz_E W H D e rip) T c u)) (hex' : ∀ c u, d' c = some u ↔ pz_mn (pz_E W H D e rip) T c u)
    (h : pz_pth W H D e rip d L pa) (h0 : d (pa 0) = some ds) : pz_pth W H D e rip d' L pa := by
  have hle : ∀ i v, i ≤ L → d (pa i) = some v → v ≤ ds := by
    intro i v hi hv
    by_cases e1 : i = 0
    · subst e1
      rw [h0] at hv
      cases hv
      exact Nat.le_refl _
    · obtain ⟨a, b, h1, h2, h3⟩ := pz_pth_dec h 0 i (by omega) hi
      rw [h0] at h1
      rw [hv] at h2
      cases h1
      cases h2
      omega
  have tr : ∀ c u, u ≤ ds → d c = some u → d' c = some u := fun c u hu hd => (hex' _ _).mpr ((hex _ _ hu).mp hd)
  refine ⟨fun i hi => ?_, tr _ _ (by omega) h.2.1, h.2.2⟩
  obtain ⟨h1, h2, v, u, h3, h4, h5, h6, n, hn, hq, hqn⟩ := h.1 i hi
  have hv := hle i v (by omega) h3
  refine ⟨h1, h2, v, u, tr _ _ hv h3, h4, tr _ _ (by omega) h5, h6, n, hn, (pr_qd hex hex' hv).mpr hq, fun m b' hm hx => hqn m b' hm ((pr_qd hex hex' hv).mp hx)⟩

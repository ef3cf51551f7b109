theorem pz_c_keep {S : zz_St} {N z : Nat} {k : Int32} (hz : z ≤ 1024) (hN : 2000 ≤ N) (h6 : zz_gi S 6 = nI z) :
    pz_T (zf_X1_keepPinsAlone N z S k) (fun S' => ∃ f, S' = zz_sa S 10 f ∧ ∀ c, c < z → f c = if zz_ga S 10 c = k ∧ zz_ga S 9 c = 0 then -1 else zz_ga S 10 c) := by
  unfold zf_X1_keepPinsAlone
  rw [pz_T_let]
  refine pz_for2 (e := z) (fun m S' => ∃ f, S' = zz_sa S 10 f ∧ (∀ c, c < m → f c = if zz_ga S 10 c = k ∧ zz_ga S 9 c = 0 then -1 else zz_ga S 10 c) ∧ ∀ c, m ≤ c → f c = zz_ga S 10 c) ?_ N 0 _ (by omega) ⟨zz_ga S 10, pz_sa_id.symm, fun c hc => by omega, fun c _ => rfl⟩ (by omega)
  rintro rc m _ hm ⟨f, rfl, hf, hf2⟩ hrc
  simp only [pz_T_ite, pz_T_gd, pz_T_jn1, pz_T_jn2, pz_T_some, pz_T_let, pz_T_b1, pz_T_b2]
  simp (disch := omega) only [pz_gi_si, pz_gi_si_n, pz_gi_sl, pz_gi_sa, pz_gi_sA, pz_gi_sp, pz_gl_si, pz_gl_sl, pz_gl_sl_n, pz_gl_sa, pz_gl_sA, pz_gl_sp, pz_ga_si, pz_ga_sl, pz_ga_sa, pz_ga_sa_n, pz_ga_sA, pz_ga_sp, pz_gA_si, pz_gA_sl, pz_gA_sa, pz_gA_sA, pz_gA_sA_n, pz_gA_sp, pz_gp_si, pz_gp_sl, pz_gp_sa, pz_gp_sA, pz_gp_sp, pz_gp_sp_n, h6, pz_leI, pz_in, nI_clampI, nI_1, pz_saa]
  refine ⟨fun hge => ?_, fun hlt => ⟨by omega, fun h1 => ⟨by omega, fun h2 => ⟨by omega, ?_⟩, fun h2 => ?_⟩, fun h1 => ?_⟩⟩
  · have : m = z := by omega
    subst this
    exact ⟨f, rfl, hf⟩
  · refine hrc (by omega) _ ⟨_, rfl, fun c hc => ?_, fun c hc => ?_⟩
    · by_cases e1 : c = m
      · subst e1
        rw [hf2 c (Nat.le_refl _)] at h1
        rw [pk_us, if_pos ⟨h1, h2⟩]
      · rw [pk_un e1]; exact hf c (by omega)
    · rw [pk_un (by omega)]; exact hf2 c (by omega)
  · refine hrc (by omega) _ ⟨f, rfl, fun c hc => ?_, fun c hc => hf2 c (by omega)⟩
    by_cases e1 : c = m
    · subst e1
      rw [hf2 c (Nat.le_refl _), if_neg (fun h => h2 h.2)]
    · exact hf c (by omega)
  · refine hrc (by omega) _ ⟨f, rfl, fun c hc => ?_, fun c hc => hf2 c (by omega)⟩
    by_cases e1 : c = m
    · subst e1
      rw [hf2 c (Nat.le_refl _)] at h1
      rw [hf2 c (Nat.le_refl _), if_neg (fun h => h1 h.1)]
    · exact hf c (by omega)
theorem pz_c_layOpen {S : zz_St} {N z k : Nat} (hz : z ≤ 1024) (hN : 2000 ≤ N) (hk : k < 12) (h6 : zz_gi S 6 = nI z) :
    pz_T (zf_X6_layOpen N z S (nI k)) (fun S' => ∃ f, S' = zz_sa (zz_sa S 22 (upd (zz_ga S 22) k 0)) 10 f ∧ ∀ c, c < z → f c = if zz_ga S 10 c = nI k ∧ zz_ga S 9 c = 0 then -1 else zz_ga S 10 c) := by
  unfold zf_X6_layOpen
  rw [pz_T_gd, pz_T_let, pz_T_b1, pz_in (by omega), nI_clampI (by omega)]
  refine ⟨hk, pz_T_mono (pz_c_keep hz hN (by rw [pz_gi_sa]; exact h6)) ?_⟩
  rintro _ ⟨f, rfl, hf⟩
  rw [pz_T_some]
  refine ⟨f, rfl, fun c hc => ?_⟩
  rw [hf c hc]
  simp (disch := omega) only [pz_gi_si, pz_gi_si_n, pz_gi_sl, pz_gi_sa, pz_gi_sA, pz_gi_sp, pz_gl_si, pz_gl_sl, pz_gl_sl_n, pz_gl_sa, pz_gl_sA, pz_gl_sp, pz_ga_si, pz_ga_sl, pz_ga_sa, pz_ga_sa_n, pz_ga_sA, pz_ga_sp, pz_gA_si, pz_gA_sl, pz_gA_sa, pz_gA_sA, pz_gA_sA_n, pz_gA_sp, pz_gp_si, pz_gp_sl, pz_gp_sa, pz_gp_sA, pz_gp_sp, pz_gp_sp_n]
/-- three rows written over -/
def pz_c3 (S : zz_St) (f g h : Nat → Int32) : zz_St := (S.1, S.2.1, zz_up (zz_up (zz_up S.2.2.1 10 f) 22 g) 24 h, S.2.2.2.1, S.2.2.2.2)
theorem pz_c3_gi {S : zz_St} {f g h : Nat → Int32} {i : Nat} : zz_gi (pz_c3 S f g h) i = zz_gi S i := rfl
theorem pz_c3_gl {S : zz_St} {f g h : Nat → Int32} {i : Nat} : zz_gl (pz_c3 S f g h) i = zz_gl S i := rfl
theorem pz_c3_gA {S : zz_St} {f g h : Nat → Int32} {i : Nat} : zz_gA (pz_c3 S f g h) i = zz_gA S i := rfl
theorem pz_c3_gp {S : zz_St} {f g h : Nat → Int32} {i : Nat} : zz_gp (pz_c3 S f g h) i = zz_gp S i := rfl
theorem pz_c3_ga10 {S : zz_St} {f g h : Nat → Int32} : zz_ga (pz_c3 S f g h) 10 = f := by simp [zz_ga, pz_c3, zz_up]
theorem pz_c3_ga22 {S : zz_St} {f g h : Nat → Int32} : zz_ga (pz_c3 S f g h) 22 = g := by simp [zz_ga, pz_c3, zz_up]
theorem pz_c3_ga24 {S : zz_St} {f g h : Nat → Int32} : zz_ga (pz_c3 S f g h) 24 = h := by simp [zz_ga, pz_c3, zz_up]
theorem pz_c3_ga {S : zz_St} {f g h : Nat → Int32} {i : Nat} (h1 : i ≠ 10) (h2 : i ≠ 22) (h3 : i ≠ 24) : zz_ga (pz_c3 S f g h) i = zz_ga S i := by simp [zz_ga, pz_c3, zz_up, h1, h2, h3]
theorem pz_c3_sa10 {S : zz_St} {f g h f' : Nat → Int32} : zz_sa (pz_c3 S f g h) 10 f' = pz_c3 S f' g h := by
  unfold zz_sa pz_c3
  simp only [Prod.mk.injEq, true_and, and_true]
  funext i
  unfold zz_up
  by_cases h1 : i = 10
  · subst h1; simp
  · simp [h1]
theorem pz_c3_sa22 {S : zz_St} {f g h g' : Nat → Int32} : zz_sa (pz_c3 S f g h) 22 g' = pz_c3 S f g' h := by
  unfold zz_sa pz_c3
  simp only [Prod.mk.injEq, true_and, and_true]
  funext i
  unfold zz_up
  by_cases h1 : i = 22
  · subst h1; simp
  · simp [h1]
theorem pz_c3_sa24 {S : zz_St} {f g h h' : Nat → Int32} : zz_sa (pz_c3 S f g h) 24 h' = pz_c3 S f g h' := by
  unfold zz_sa pz_c3
  simp only [Prod.mk.injEq, true_and, and_true]
  funext i
  unfold zz_up
  by_cases h1 : i = 24
  · subst h1; simp
  · simp [h1]
theorem pz_c3_id {S : zz_St} : S = pz_c3 S (zz_ga S 10) (zz_ga S 22) (zz_ga S 24) := by
  unfold pz_c3 zz_ga
  rw [pz_up_id, pz_up_id, pz_up_id]
def pz_rip (x : Int32) (nn : Nat) (S S' : zz_St) : Prop := ∃ f g h, S' = pz_c3 S f g h ∧ (∀ c, f c = f c) ∧ (∀ n, n < 12 → g n = if n < nn ∧ bt x n = true then 0 else zz_ga S 22 n) ∧ ∀ n, n < 12 → h n = if n < nn ∧ bt x n = true then zz_ga S 24 n + 1 else zz_ga S 24 n
theorem pz_c_ripUp {S : zz_St} {N z nn : Nat} {x : Int32} (hz : z ≤ 1024) (hN : 2000 ≤ N) (hnn : nn ≤ 12) (h0 : zz_gi S 0 = nI nn) (h6 : zz_gi S 6 = nI z) (hh : ∀ c, c < z → zz_ga S 10 c = -1 ∨ ∃ o, o < 32 ∧ zz_ga S 10 c = nI o) :
    pz_T (zf_X6_ripUp N z S x) (fun S' => ∃ f g h, S' = pz_c3 S f g h ∧ (∀ c, c < z → f c = pz_rp x nn (zz_ga S 10) (zz_ga S 9) c) ∧ (∀ n, n < 12 → g n = if n < nn ∧ bt x n = true then 0 else zz_ga S 22 n) ∧ ∀ n, n < 12 → h n = if n < nn ∧ bt x n = true then zz_ga S 24 n + 1 else zz_ga S 24 n) := by
  unfold zf_X6_ripUp
  rw [pz_T_let]
  refine pz_for2 (e := nn) (fun m S' => ∃ f g h, S' = pz_c3 S f g h ∧ (∀ c, c < z → f c = pz_rp x m (zz_ga S 10) (zz_ga S 9) c) ∧ (∀ n, n < 12 → g n = if n < m ∧ bt x n = true then 0 else zz_ga S 22 n) ∧ ∀ n, n < 12 → h n = if n < m ∧ bt x n = true then zz_ga S 24 n + 1 else zz_ga S 24 n) ?_ N 0 _ (by omega) ⟨_, _, _, pz_c3_id, fun c _ => pz_rp_0.symm, fun n _ => by simp, fun n _ => by simp⟩ (by omega)
  rintro rc m _ hm ⟨f, g, h, rfl, hf, hg, hhh⟩ hrc
  simp only [pz_T_ite, pz_T_gd, pz_T_jn1, pz_T_jn2, pz_T_some, pz_T_let, pz_T_b1, pz_T_b2]
  simp (disch := omega) only [pz_c3_gi, h0, pz_leI, pz_bt_u, nI_1]
  refine ⟨fun hge => ?_, fun hlt => ⟨fun hb => ?_, fun hb => ?_⟩⟩
  · have : m = nn := by omega
    subst this
    exact ⟨f, g, h, rfl, hf, hg, hhh⟩
  · refine hrc (by omega) _ ⟨f, g, h, rfl, fun c hc => ?_, fun n hn => ?_, fun n hn => ?_⟩
    · rw [hf c hc, pz_rp_f hb]
    · rw [hg n hn]
      by_cases e1 : n = m
      · subst e1; simp [hb]
      · have : (n < m + 1) = (n < m) := by apply propext; omega
        simp only [this]
    · rw [hhh n hn]
      by_cases e1 : n = m
      · subst e1; simp [hb]
      · have : (n < m + 1) = (n < m) := by apply propext; omega
        simp only [this]
  · have hb' : bt x m = true := by simpa using hb
    refine pz_T_mono (pz_c_layOpen (S := pz_c3 S f g h) hz hN (by omega) h6) ?_
    rintro _ ⟨f2, rfl, hf2⟩
    simp (disch := omega) only [pz_in, nI_clampI, pz_c3_ga10, pz_c3_ga22, pz_c3_ga24, pz_c3_ga, pz_c3_sa10, pz_c3_sa22, pz_c3_sa24] at hf2 ⊢
    refine ⟨by omega, hrc (by omega) _ ⟨_, _, _, rfl, fun c hc => ?_, fun n hn => ?_, fun n hn => ?_⟩⟩
    · rw [hf2 c hc, pz_rp_t (by omega) (hh c hc) hb', hf c hc]
    · by_cases e1 : n = m
      · subst e1; rw [pk_us, if_pos ⟨by omega, hb'⟩]
      · have : (n < m + 1) = (n < m) := by apply propext; omega
        simp only [this]
        rw [pk_un e1]
        exact hg n hn
    · by_cases e1 : n = m
      · subst e1
        rw [pk_us, if_pos ⟨by omega, hb'⟩, hhh n hn, if_neg (by omega)]
      · have : (n < m + 1) = (n < m) := by apply propext; omega
        simp only [this]
        rw [pk_un e1]
        exact hhh n hn
/-- the tree grows, the scars with it -/
def pz_c4 (S : zz_St) (sz : Int32) (m : Nat → Int32) (sc : Nat → Int64) : zz_St := (zz_up S.1 7 sz, S.2.1, zz_up S.2.2.1 16 m, zz_up S.2.2.2.1 12 sc, S.2.2.2.2)
theorem pz_c4_gi7 {S : zz_St} {sz : Int32} {m : Nat → Int32} {sc : Nat → Int64} : zz_gi (pz_c4 S sz m sc) 7 = sz := by simp [zz_gi, pz_c4, zz_up]
theorem pz_c4_gi {S : zz_St} {sz : Int32} {m : Nat → Int32} {sc : Nat → Int64} {i : Nat} (h : i ≠ 7) : zz_gi (pz_c4 S sz m sc) i = zz_gi S i := by simp [zz_gi, pz_c4, zz_up, h]
theorem pz_c4_gl {S : zz_St} {sz : Int32} {m : Nat → Int32} {sc : Nat → Int64} {i : Nat} : zz_gl (pz_c4 S sz m sc) i = zz_gl S i := rfl
theorem pz_c4_gp {S : zz_St} {sz : Int32} {m : Nat → Int32} {sc : Nat → Int64} {i : Nat} : zz_gp (pz_c4 S sz m sc) i = zz_gp S i := rfl
theorem pz_c4_ga16 {S : zz_St} {sz : Int32} {m : Nat → Int32} {sc : Nat → Int64} : zz_ga (pz_c4 S sz m sc) 16 = m := by simp [zz_ga, pz_c4, zz_up]
theorem pz_c4_ga {S : zz_St} {sz : Int32} {m : Nat → Int32} {sc : Nat → Int64} {i : Nat} (h : i ≠ 16) : zz_ga (pz_c4 S sz m sc) i = zz_ga S i := by simp [zz_ga, pz_c4, zz_up, h]
theorem pz_c4_gA12 {S : zz_St} {sz : Int32} {m : Nat → Int32} {sc : Nat → Int64} : zz_gA (pz_c4 S sz m sc) 12 = sc := by simp [zz_gA, pz_c4, zz_up]
theorem pz_c4_gA {S : zz_St} {sz : Int32} {m : Nat → Int32} {sc : Nat → Int64} {i : Nat} (h : i ≠ 12) : zz_gA (pz_c4 S sz m sc) i = zz_gA S i := by simp [zz_gA, pz_c4, zz_up, h]
theorem pz_c4_si7 {S : zz_St} {sz sz' : Int32} {m : Nat → Int32} {sc : Nat → Int64} : zz_si (pz_c4 S sz m sc) 7 sz' = pz_c4 S sz' m sc := by
  unfold zz_si pz_c4
  simp [pz_up_up]
theorem pz_c4_sa16 {S : zz_St} {sz : Int32} {m m' : Nat → Int32} {sc : Nat → Int64} : zz_sa (pz_c4 S sz m sc) 16 m' = pz_c4 S sz m' sc := by
  unfold zz_sa pz_c4
  simp [pz_up_up]
theorem pz_c4_sA12 {S : zz_St} {sz : Int32} {m : Nat → Int32} {sc sc' : Nat → Int64} : zz_sA (pz_c4 S sz m sc) 12 sc' = pz_c4 S sz m sc' := by
  unfold zz_sA pz_c4
  simp [pz_up_up]
theorem pz_c4_id {S : zz_St} : S = pz_c4 S (zz_gi S 7) (zz_ga S 16) (zz_gA S 12) := by
  unfold pz_c4 zz_gi zz_ga zz_gA
  rw [pz_up_id, pz_up_id, pz_up_id]
theorem pz_c_other' {S : zz_St} {N z c : Nat} {k : Int32} {b : Bool} (hz : z ≤ 1024) (hc : c < z) (h3 : (zz_ga S 10 c ≠ -1 ∧ zz_ga S 10 c ≠ k) ↔ b = true) : zf_X1_heldByOther N z S (nI c) k = some (pz_b b) := by
  apply pz_eq_of
  unfold zf_X1_heldByOther
  simp only [pz_T_ite, pz_T_gd, pz_T_jn1, pz_T_jn2, pz_T_some, pz_T_let, pz_T_b1, pz_T_b2]
  simp (disch := omega) only [pz_in, nI_clampI, pz_bl0, pz_bl1, true_and, hc]
  cases hf : b
  · refine ⟨fun _ => rfl, fun q1 => ⟨fun _ => rfl, fun q2 => ?_⟩⟩
    rw [h3.mp ⟨q1, q2⟩] at hf
    cases hf
  · obtain ⟨q1, q2⟩ := h3.mpr hf
    exact ⟨fun q => absurd q q1, fun _ => ⟨fun q => absurd q q2, fun _ => rfl⟩⟩
theorem pz_c_joinFrom {W H D : Nat} {e : pz_Env} (he : pz_ev W H D e) {k : Int32} {S : zz_St} (hm : pz_cenv W H D e k S) {N ts L : Nat} {tr pa : Nat → Nat} (hN : 2000 ≤ N) {rip : Bool} {d : Nat → Option Nat} (htree : pz_tree (W * H * D) ts tr S)
    (hrow : pz_row (W * H * D) (zz_gA S 17) d) (hrb : pz_rb (W * H * D) d) (ht : pz_tolls (W * H * D) e rip (zz_gA S 18) (pz_tl W H D e rip)) (hp : pz_pth W H D e rip d L pa) (hroom : ts + L ≤ (W * H * D))
    (hh : ∀ c, c < (W * H * D) → pe_fg e c = true → ∃ o, o < 32 ∧ zz_ga S 10 c = nI o) :
    pz_T (zf_X6_joinFrom N (W * H * D) S (nI (pa 0)) k) (fun p => ∃ m sc, p.2 = pz_c4 S (nI (ts + L)) m sc ∧ (∀ i, i < ts + L → m i = nI (pz_cat ts tr pa i)) ∧ (∀ c, c < (W * H * D) → sc c = lN (if (∃ j, j < L ∧ pa j = c) ∧ pe_fg e c = true then pe_hist e c + 1 else pe_hist e c)) ∧ ∀ i, i < 32 → (bt p.1 i = true ↔ ∃ j, j < L ∧ pe_fg e (pa j) = true ∧ zz_ga S 10 (pa j) = nI i)) := by
  have hs := he.1
  have hz := hs.2.2.2.2.1
  have hbd : ∀ j v, d j = some v → v ≤ 2048000000000 := fun j v h => pz_rb_le hz hrb h
  have hLz : L + 1 ≤ (W * H * D) := pz_room (f := pa) (fun i hi => pz_pth_lt hp (by omega)) (fun i j hi hj h => pz_pth_inj hp (by omega) (by omega) h)
  unfold zf_X6_joinFrom
  rw [pz_T_let, pz_T_let, pz_T_let]
  let I : Nat → Int32 → Int32 → Int32 → zz_St → Prop := fun mm v4 v5 v6 S7 => ∃ i m sc, L - i = mm ∧ i ≤ L ∧ v5 = nI (pa i) ∧ v6 = nI i ∧ S7 = pz_c4 S (nI (ts + i)) m sc ∧ (∀ j, j < ts + i → m j = nI (pz_cat ts tr pa j)) ∧ (∀ c, c < (W * H * D) → sc c = lN (if (∃ j, j < i ∧ pa j = c) ∧ pe_fg e c = true then pe_hist e c + 1 else pe_hist e c)) ∧ ∀ o, o < 32 → (bt v4 o = true ↔ ∃ j, j < i ∧ pe_fg e (pa j) = true ∧ zz_ga S 10 (pa j) = nI o)
  have hfix : ∀ {F : (Int32 → Int32 → Int32 → zz_St → Option (Int32 × zz_St)) → Int32 → Int32 → Int32 → zz_St → Option (Int32 × zz_St)} {P : Int32 × zz_St → Prop}
      (hb : ∀ rc m x0 x1 x2 x3, I m x0 x1 x2 x3 → (∀ m' y0 y1 y2 y3, m' < m → I m' y0 y1 y2 y3 → pz_T (rc y0 y1 y2 y3) P) → pz_T (F rc x0 x1 x2 x3) P), ∀ k m x0 x1 x2 x3, I m x0 x1 x2 x3 → m < k → pz_T (zz_fix4 F k x0 x1 x2 x3) P := by
    intro F P hb k
    induction k with
    | zero => intro m x0 x1 x2 x3 _ h; omega
    | succ k ih => intro m x0 x1 x2 x3 hi hm; exact hb _ m x0 x1 x2 x3 hi (fun m' y0 y1 y2 y3 hlt hy => ih m' y0 y1 y2 y3 hy (by omega))
  refine hfix ?_ N L _ _ _ _ ⟨0, zz_ga S 16, zz_gA S 12, rfl, by omega, rfl, rfl, ?_, ?_, ?_, ?_⟩ (by omega)
  · rintro rc mm x _ _ _ ⟨i, m, sc, rfl, hiL, rfl, rfl, rfl, hm', hsc, hx⟩ hrc
    have hpi := pz_pth_lt hp hiL
    have hdi : ∃ v, d (pa i) = some v ∧ (v = 0 ↔ i = L) := by
      by_cases e1 : i = L
      · subst e1; exact ⟨0, hp.2.1, by simp⟩
      · obtain ⟨-, -, v, u, h1, h2, -⟩ := hp.1 i (by omega)
        exact ⟨v, h1, by omega⟩
    obtain ⟨v, hdv, hvL⟩ := hdi
    have hvb := hbd _ _ hdv
    simp only [pz_T_ite, pz_T_gd, pz_T_jn1, pz_T_jn2, pz_T_some, pz_T_let, pz_T_b1, pz_T_b2]
    simp (disch := omega) only [pz_c4_gi, hm.1.2.2.2.2, pz_leI, pz_nm1, pz_in, nI_clampI, nI_1, pz_l_le, pz_c4_gA, hrow (pa i) hpi, hdv, pz_lo_s, pz_lN_le0]
    have hend : i = L → (∃ m_1 sc_1, pz_c4 S (nI (ts + i)) m sc = pz_c4 S (nI (ts + L)) m_1 sc_1 ∧ (∀ i, i < ts + L → m_1 i = nI (pz_cat ts tr pa i)) ∧ (∀ c, c < (W * H * D) → sc_1 c = lN (if (∃ j, j < L ∧ pa j = c) ∧ pe_fg e c = true then pe_hist e c + 1 else pe_hist e c)) ∧ ∀ i, i < 32 → (bt x i = true ↔ ∃ j, j < L ∧ pe_fg e (pa j) = true ∧ zz_ga S 10 (pa j) = nI i)) := by
      intro h
      subst h
      exact ⟨m, sc, rfl, hm', hsc, hx⟩
    refine ⟨fun hge => by omega, fun _ => ⟨fun h => h.elim, fun _ => ⟨hpi, fun h0 => hend (hvL.mp h0), fun h0 => ?_⟩⟩⟩
    have hiL' : i < L := by
      by_cases e1 : i = L
      · exact absurd (hvL.mpr e1) h0
      · omega
    obtain ⟨-, hcan, v', u, h1, h2, h3, h4, hfs⟩ := hp.1 i hiL'
    rw [hdv] at h1
    cases h1
    have hfi := (hm.2.1 (pa i) hpi).2.2.1
    have hhi := he.2.2 (pa i) hpi
    rw [pz_T_eq (pz_c_other' (S := pz_c4 S (nI (ts + i)) m sc) (b := pe_fg e (pa i)) hz hpi (by rw [pz_c4_ga (by decide)]; exact hfi))]
    rw [pz_b_0]
    have hstep : ∀ x' sc', (∀ c, c < (W * H * D) → sc' c = lN (if (∃ j, j < i + 1 ∧ pa j = c) ∧ pe_fg e c = true then pe_hist e c + 1 else pe_hist e c)) → (∀ o, o < 32 → (bt x' o = true ↔ ∃ j, j < i + 1 ∧ pe_fg e (pa j) = true ∧ zz_ga S 10 (pa j) = nI o)) →
        pz_T (zf_X5_add N (W * H * D) (pz_c4 S (nI (ts + i)) m sc') (nI (pa i))) (fun S18 => pz_T (zf_X4_stepBack N (W * H * D) S18 (nI (pa i))) (fun x19 => pz_T (rc x' x19 (nI (i + 1)) S18) (fun p => ∃ m sc, p.2 = pz_c4 S (nI (ts + L)) m sc ∧ (∀ i, i < ts + L → m i = nI (pz_cat ts tr pa i)) ∧ (∀ c, c < (W * H * D) → sc c = lN (if (∃ j, j < L ∧ pa j = c) ∧ pe_fg e c = true then pe_hist e c + 1 else pe_hist e c)) ∧ ∀ i, i < 32 → (bt p.1 i = true ↔ ∃ j, j < L ∧ pe_fg e (pa j) = true ∧ zz_ga S 10 (pa j) = nI i)))) := by
      intro x' sc' hsc' hx'
      unfold zf_X5_add
      simp only [pz_T_ite, pz_T_gd, pz_T_jn1, pz_T_jn2, pz_T_some, pz_T_let, pz_T_b1, pz_T_b2]
      simp (disch := omega) only [pz_c4_gi7, pz_leI, pz_in, nI_clampI, pz_c4_ga16, pz_c4_sa16, pz_c4_si7, nI_1]
      refine ⟨fun hge => by omega, fun _ => ⟨by omega, ?_⟩⟩
      refine pz_T_mono (pz_c_stepBack he (d := d) (rip := rip) (v := v) ?_ ?_ (by omega) hpi ?_ hrb ?_ hdv hcan) ?_
      · have := hm.1
        unfold pz_cgeo at this ⊢
        simp (disch := omega) only [pz_c4_gi]
        exact this
      · intro l hl
        simp (disch := omega) only [pz_c4_ga]
        exact hm.2.2 l hl
      · rw [pz_c4_gA (by decide)]; exact hrow
      · rw [pz_c4_gA (by decide)]; exact ht
      · intro r hr
        rw [pz_bk_fs hfs hr]
        refine hrc (L - (i + 1)) _ _ _ _ (by omega) ⟨i + 1, _, _, rfl, by omega, rfl, rfl, rfl, ?_, hsc', hx'⟩
        intro j hj
        by_cases e1 : j = ts + i
        · subst e1
          rw [pk_us, pz_cat_r]
        · rw [pk_un e1]
          exact hm' j (by omega)
    refine ⟨fun hf => hstep x sc ?_ ?_, fun hf => ?_⟩
    · intro c hc
      rw [hsc c hc]
      by_cases e1 : c = pa i
      · subst e1
        simp [hf]
      · have : (∃ j, j < i + 1 ∧ pa j = c) = (∃ j, j < i ∧ pa j = c) := by
          apply propext
          constructor
          · rintro ⟨j, hj, hjc⟩
            by_cases e2 : j = i
            · subst e2; exact absurd hjc.symm e1
            · exact ⟨j, by omega, hjc⟩
          · rintro ⟨j, hj, hjc⟩
            exact ⟨j, by omega, hjc⟩
        simp only [this]
    · intro o ho
      rw [hx o ho]
      constructor
      · rintro ⟨j, hj, h⟩
        exact ⟨j, by omega, h⟩
      · rintro ⟨j, hj, hjf, h⟩
        by_cases e2 : j = i
        · subst e2; rw [hf] at hjf; cases hjf
        · exact ⟨j, by omega, hjf, h⟩
    · have hf' : pe_fg e (pa i) = true := by simpa using hf
      obtain ⟨o, ho, hol⟩ := hh (pa i) hpi hf'
      have hnew : ¬ ∃ j, j < i ∧ pa j = pa i := by
        rintro ⟨j, hj, hji⟩
        have := pz_pth_inj hp (by omega) (by omega) hji
        omega
      have hsci : sc (pa i) = lN (pe_hist e (pa i)) := by
        rw [hsc (pa i) hpi, if_neg (fun h => hnew h.1)]
      simp (disch := omega) only [pz_c4_ga, pz_c4_gA12, pz_c4_sA12, hol]
      refine ⟨hpi, hpi, hpi, hstep _ _ ?_ ?_⟩
      · intro c hc
        by_cases e1 : c = pa i
        · subst e1
          rw [pk_uLs, hsci, lN_1, if_pos ⟨⟨i, by omega, rfl⟩, hf'⟩]
        · rw [pk_uLn e1, hsc c hc]
          have : (∃ j, j < i + 1 ∧ pa j = c) = (∃ j, j < i ∧ pa j = c) := by
            apply propext
            constructor
            · rintro ⟨j, hj, hjc⟩
              by_cases e2 : j = i
              · subst e2; exact absurd hjc.symm e1
              · exact ⟨j, by omega, hjc⟩
            · rintro ⟨j, hj, hjc⟩
              exact ⟨j, by omega, hjc⟩
          simp only [this]
      · intro o' ho'
        rw [pz_bt_or ho ho']
        simp only [Bool.or_eq_true, decide_eq_true_eq]
        rw [hx o' ho']
        constructor
        · rintro (⟨j, hj, h⟩ | h)
          · exact ⟨j, by omega, h⟩
          · subst h; exact ⟨i, by omega, hf', hol⟩
        · rintro ⟨j, hj, hjf, h⟩
          by_cases e2 : j = i
          · subst e2
            rw [hol, pz_eqI (by omega) (by omega)] at h
            exact Or.inr h.symm
          · exact Or.inl ⟨j, by omega, hjf, h⟩
  · have h1 := htree.1
    have h2 := pz_c4_id (S := S)
    rw [h1] at h2
    exact h2
  · intro j hj
    rw [(htree.2.2 j (by omega)).1, pz_cat_l (by omega)]
  · intro c hc
    rw [(hm.2.1 c hc).2.2.2, if_neg]
    rintro ⟨⟨j, hj, -⟩, -⟩
    omega
  · intro o ho
    rw [b_0]
    exact ⟨fun h => (by cases h), fun ⟨j, h, _⟩ => by omega⟩

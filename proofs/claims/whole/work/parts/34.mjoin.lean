def pz_m4 (S : zz_St) (f g h r : Nat → Int32) : zz_St := (S.1, S.2.1, zz_up (zz_up (zz_up (zz_up S.2.2.1 3 f) 10 g) 11 h) 14 r, S.2.2.2.1, S.2.2.2.2)
theorem pz_m4_gi {S : zz_St} {f g h r : Nat → Int32} {i : Nat} : zz_gi (pz_m4 S f g h r) i = zz_gi S i := rfl
theorem pz_m4_gl {S : zz_St} {f g h r : Nat → Int32} {i : Nat} : zz_gl (pz_m4 S f g h r) i = zz_gl S i := rfl
theorem pz_m4_gA {S : zz_St} {f g h r : Nat → Int32} {i : Nat} : zz_gA (pz_m4 S f g h r) i = zz_gA S i := rfl
theorem pz_m4_gp {S : zz_St} {f g h r : Nat → Int32} {i : Nat} : zz_gp (pz_m4 S f g h r) i = zz_gp S i := rfl
theorem pz_m4_ga3 {S : zz_St} {f g h r : Nat → Int32} : zz_ga (pz_m4 S f g h r) 3 = f := by simp [zz_ga, pz_m4, zz_up]
theorem pz_m4_ga10 {S : zz_St} {f g h r : Nat → Int32} : zz_ga (pz_m4 S f g h r) 10 = g := by simp [zz_ga, pz_m4, zz_up]
theorem pz_m4_ga11 {S : zz_St} {f g h r : Nat → Int32} : zz_ga (pz_m4 S f g h r) 11 = h := by simp [zz_ga, pz_m4, zz_up]
theorem pz_m4_ga14 {S : zz_St} {f g h r : Nat → Int32} : zz_ga (pz_m4 S f g h r) 14 = r := by simp [zz_ga, pz_m4, zz_up]
theorem pz_m4_ga {S : zz_St} {f g h r : Nat → Int32} {i : Nat} (h1 : i ≠ 3) (h2 : i ≠ 10) (h3 : i ≠ 11) (h4 : i ≠ 14) : zz_ga (pz_m4 S f g h r) i = zz_ga S i := by simp [zz_ga, pz_m4, zz_up, h1, h2, h3, h4]
theorem pz_m4_sa3 {S : zz_St} {f g h r f' : Nat → Int32} : zz_sa (pz_m4 S f g h r) 3 f' = pz_m4 S f' g h r := by
  unfold zz_sa pz_m4
  simp only [Prod.mk.injEq, true_and, and_true]
  funext i
  unfold zz_up
  by_cases h1 : i = 3
  · subst h1; simp
  · simp [h1]
theorem pz_m4_sa10 {S : zz_St} {f g h r f' : Nat → Int32} : zz_sa (pz_m4 S f g h r) 10 f' = pz_m4 S f f' h r := by
  unfold zz_sa pz_m4
  simp only [Prod.mk.injEq, true_and, and_true]
  funext i
  unfold zz_up
  by_cases h1 : i = 10
  · subst h1; simp
  · simp [h1]
theorem pz_m4_sa11 {S : zz_St} {f g h r f' : Nat → Int32} : zz_sa (pz_m4 S f g h r) 11 f' = pz_m4 S f g f' r := by
  unfold zz_sa pz_m4
  simp only [Prod.mk.injEq, true_and, and_true]
  funext i
  unfold zz_up
  by_cases h1 : i = 11
  · subst h1; simp
  · simp [h1]
theorem pz_m4_sa14 {S : zz_St} {f g h r f' : Nat → Int32} : zz_sa (pz_m4 S f g h r) 14 f' = pz_m4 S f g h f' := by
  unfold zz_sa pz_m4
  simp only [Prod.mk.injEq, true_and, and_true]
  funext i
  unfold zz_up
  by_cases h1 : i = 14
  · subst h1; simp
  · simp [h1]
theorem pz_m4_id {S : zz_St} : S = pz_m4 S (zz_ga S 3) (zz_ga S 10) (zz_ga S 11) (zz_ga S 14) := by
  unfold pz_m4 zz_ga
  rw [pz_up_id, pz_up_id, pz_up_id, pz_up_id]
theorem pz_m_loosen {M : zz_St} {N k : Nat} (hN : 2000 ≤ N) (hk : k < 12) :
    pz_T (zf_X7_loosen N M (nI k)) (fun M' => ∃ f, M' = zz_sa (zz_sa (zz_sa M 3 f) 10 (upd (zz_ga M 10) k 0)) 11 (upd (zz_ga M 11) k 0) ∧ ∀ c, c < 1024 → f c = if zz_ga M 3 c = nI k ∧ zz_ga M 4 c = 0 then -1 else zz_ga M 3 c) := by
  unfold zf_X7_loosen
  rw [pz_T_let]
  refine pz_for2 (e := 1024) (fun m M' => ∃ f, M' = zz_sa M 3 f ∧ (∀ c, c < m → f c = if zz_ga M 3 c = nI k ∧ zz_ga M 4 c = 0 then -1 else zz_ga M 3 c) ∧ ∀ c, m ≤ c → f c = zz_ga M 3 c) ?_ N 0 _ (by omega) ⟨zz_ga M 3, pz_sa_id.symm, fun c hc => by omega, fun c _ => rfl⟩ (by omega)
  rintro rc m _ hm ⟨f, rfl, hf, hf2⟩ hrc
  simp only [pz_T_ite, pz_T_gd, pz_T_jn1, pz_T_jn2, pz_T_some, pz_T_let, pz_T_b1, pz_T_b2]
  simp (disch := omega) only [pz_gi_si, pz_gi_si_n, pz_gi_sl, pz_gi_sa, pz_gi_sA, pz_gi_sp, pz_gl_si, pz_gl_sl, pz_gl_sl_n, pz_gl_sa, pz_gl_sA, pz_gl_sp, pz_ga_si, pz_ga_sl, pz_ga_sa, pz_ga_sa_n, pz_ga_sA, pz_ga_sp, pz_gA_si, pz_gA_sl, pz_gA_sa, pz_gA_sA, pz_gA_sA_n, pz_gA_sp, pz_gp_si, pz_gp_sl, pz_gp_sa, pz_gp_sA, pz_gp_sp, pz_gp_sp_n, pz_c1024a, pz_in, nI_clampI, nI_1, pz_saa, pz_nar0]
  have hup : ∀ x, (x = if zz_ga M 3 m = nI k ∧ zz_ga M 4 m = 0 then -1 else zz_ga M 3 m) → m < 1024 → pz_T (rc (nI (m + 1)) (zz_sa M 3 (upd f m x))) (fun M' => ∃ f, M' = zz_sa (zz_sa (zz_sa M 3 f) 10 (upd (zz_ga M 10) k 0)) 11 (upd (zz_ga M 11) k 0) ∧ ∀ c, c < 1024 → f c = if zz_ga M 3 c = nI k ∧ zz_ga M 4 c = 0 then -1 else zz_ga M 3 c) := by
    intro x hx hml
    refine hrc (by omega) _ ⟨_, rfl, fun c hc => ?_, fun c hc => ?_⟩
    · by_cases e1 : c = m
      · subst e1; rw [pk_us]; exact hx
      · rw [pk_un e1]; exact hf c (by omega)
    · rw [pk_un (by omega)]; exact hf2 c (by omega)
  have hfm := hf2 m (Nat.le_refl _)
  refine ⟨fun hge => ⟨hk, hk, f, rfl, fun c hc => hf c (by omega)⟩, fun hlt => ⟨by omega, fun h1 => ⟨by omega, fun h2 => ⟨by omega, hup _ ?_ (by omega)⟩, fun h2 => ⟨by omega, by omega, hup _ ?_ (by omega)⟩⟩, fun h1 => ⟨by omega, by omega, hup _ ?_ (by omega)⟩⟩⟩
  · rw [hfm] at h1
    rw [if_pos ⟨h1, h2⟩]
  · rw [hfm, if_neg (fun h => h2 h.2)]
  · rw [hfm] at h1
    rw [hfm, if_neg (fun h => h1 h.1)]
def pz_m3 (S : zz_St) (f g h : Nat → Int32) : zz_St := (S.1, S.2.1, zz_up (zz_up (zz_up S.2.2.1 17 f) 12 g) 11 h, S.2.2.2.1, S.2.2.2.2)
theorem pz_m3_gi {S : zz_St} {f g h : Nat → Int32} {i : Nat} : zz_gi (pz_m3 S f g h) i = zz_gi S i := rfl
theorem pz_m3_gl {S : zz_St} {f g h : Nat → Int32} {i : Nat} : zz_gl (pz_m3 S f g h) i = zz_gl S i := rfl
theorem pz_m3_gA {S : zz_St} {f g h : Nat → Int32} {i : Nat} : zz_gA (pz_m3 S f g h) i = zz_gA S i := rfl
theorem pz_m3_gp {S : zz_St} {f g h : Nat → Int32} {i : Nat} : zz_gp (pz_m3 S f g h) i = zz_gp S i := rfl
theorem pz_m3_ga17 {S : zz_St} {f g h : Nat → Int32} : zz_ga (pz_m3 S f g h) 17 = f := by simp [zz_ga, pz_m3, zz_up]
theorem pz_m3_ga12 {S : zz_St} {f g h : Nat → Int32} : zz_ga (pz_m3 S f g h) 12 = g := by simp [zz_ga, pz_m3, zz_up]
theorem pz_m3_ga11 {S : zz_St} {f g h : Nat → Int32} : zz_ga (pz_m3 S f g h) 11 = h := by simp [zz_ga, pz_m3, zz_up]
theorem pz_m3_ga {S : zz_St} {f g h : Nat → Int32} {i : Nat} (h1 : i ≠ 17) (h2 : i ≠ 12) (h3 : i ≠ 11) : zz_ga (pz_m3 S f g h) i = zz_ga S i := by simp [zz_ga, pz_m3, zz_up, h1, h2, h3]
theorem pz_m3_sa17 {S : zz_St} {f g h f' : Nat → Int32} : zz_sa (pz_m3 S f g h) 17 f' = pz_m3 S f' g h := by
  unfold zz_sa pz_m3
  simp only [Prod.mk.injEq, true_and, and_true]
  funext i
  unfold zz_up
  by_cases h1 : i = 17
  · subst h1; simp
  · simp [h1]
theorem pz_m3_sa12 {S : zz_St} {f g h f' : Nat → Int32} : zz_sa (pz_m3 S f g h) 12 f' = pz_m3 S f f' h := by
  unfold zz_sa pz_m3
  simp only [Prod.mk.injEq, true_and, and_true]
  funext i
  unfold zz_up
  by_cases h1 : i = 12
  · subst h1; simp
  · simp [h1]
theorem pz_m3_sa11 {S : zz_St} {f g h f' : Nat → Int32} : zz_sa (pz_m3 S f g h) 11 f' = pz_m3 S f g f' := by
  unfold zz_sa pz_m3
  simp only [Prod.mk.injEq, true_and, and_true]
  funext i
  unfold zz_up
  by_cases h1 : i = 11
  · subst h1; simp
  · simp [h1]
theorem pz_m3_id {S : zz_St} : S = pz_m3 S (zz_ga S 17) (zz_ga S 12) (zz_ga S 11) := by
  unfold pz_m3 zz_ga
  rw [pz_up_id, pz_up_id, pz_up_id]
theorem pz_m_comes {M : zz_St} {N k c t : Nat} {f g h : Nat → Int32} (hk : k < 12) (hc : c < 1024) (ht : t < 1024) (h11 : h k = nI t) :
    zf_X7_comes N (pz_m3 M f g h) (nI k) (nI c) = some (pz_m3 M (upd f c 1) (upd g (1024 * k + t) (nI c)) (upd h k (nI (t + 1)))) := by
  apply pz_eq_of
  unfold zf_X7_comes
  simp only [pz_T_ite, pz_T_gd, pz_T_jn1, pz_T_jn2, pz_T_some, pz_T_let, pz_T_b1, pz_T_b2]
  simp (disch := omega) only [pz_m3_gi, pz_m3_gl, pz_m3_gA, pz_m3_gp, pz_m3_ga17, pz_m3_ga12, pz_m3_ga11, pz_m3_ga, pz_m3_sa17, pz_m3_sa12, pz_m3_sa11, pz_in, nI_clampI, pz_nar1, pz_1024m, h11, nI_add, nI_1]
  exact ⟨hc, hk, by omega, hk, hk, trivial⟩
theorem pz_menv_of {W H D : Nat} {e : pz_Env} {k : Int32} {M M' : zz_St} (h : pz_menv W H D e k M) (h0 : ∀ i, zz_gi M' i = zz_gi M i) (h1 : ∀ r, 3 ≤ r → r ≤ 9 → zz_ga M' r = zz_ga M r) (h2 : zz_gA M' 6 = zz_gA M 6) : pz_menv W H D e k M' := by
  obtain ⟨⟨a1, a2, a3⟩, b, c⟩ := h
  refine ⟨⟨by rw [h0]; exact a1, by rw [h0]; exact a2, by rw [h0]; exact a3⟩, ?_, ?_⟩
  · intro x hx
    rw [h1 5 (by omega) (by omega), h1 4 (by omega) (by omega), h1 3 (by omega) (by omega), h2]
    exact b x hx
  · intro l hl
    rw [h1 7 (by omega) (by omega), h1 8 (by omega) (by omega), h1 9 (by omega) (by omega)]
    exact c l hl
/-- what a join leaves -/
def pz_mj (W H D : Nat) (e : pz_Env) (nn k ts L : Nat) (pa : Nat → Nat) (x : Int32) (M M' : zz_St) : Prop :=
  (∀ i, zz_gi M' i = zz_gi M i) ∧ (∀ i, zz_gl M' i = zz_gl M i) ∧ (∀ r, r ≠ 3 → r ≠ 10 → r ≠ 11 → r ≠ 12 → r ≠ 14 → r ≠ 17 → zz_ga M' r = zz_ga M r) ∧ (∀ r, r ≠ 6 → r ≠ 13 → zz_gA M' r = zz_gA M r) ∧
  zz_gA M' 13 = vp_updL (zz_gA M 13) k (zz_gA M 13 k + zz_gA M 16 (pa 0)) ∧
  (∀ c, c < W * H * D → zz_ga M' 17 c = if (∃ j, j < L ∧ pa j = c) then 1 else zz_ga M 17 c) ∧
  (∀ n, n < 12 → zz_ga M' 11 n = if n = k then nI (ts + L) else if n < nn ∧ bt x n = true then 0 else zz_ga M 11 n) ∧
  ((∀ i, i < L → zz_ga M' 12 (1024 * k + (ts + i)) = nI (pa i)) ∧ ∀ j, (j < 1024 * k + ts ∨ 1024 * k + (ts + L) ≤ j) → zz_ga M' 12 j = zz_ga M 12 j) ∧
  (∀ c, c < W * H * D → zz_gA M' 6 c = lN (if (∃ j, j < L ∧ pa j = c) ∧ pe_fg e c = true then pe_hist e c + 1 else pe_hist e c)) ∧
  (∀ c, c < W * H * D → zz_ga M' 3 c = if (∃ j, j < L ∧ pa j = c) then nI k else pz_rp x nn (zz_ga M 3) (zz_ga M 4) c) ∧
  (∀ n, n < 12 → zz_ga M' 10 n = if n < nn ∧ bt x n = true then 0 else zz_ga M 10 n) ∧
  (∀ n, n < 12 → zz_ga M' 14 n = if n < nn ∧ bt x n = true then zz_ga M 14 n + 1 else zz_ga M 14 n) ∧
  (∀ i, i < 32 → (bt x i = true ↔ ∃ j, j < L ∧ pe_fg e (pa j) = true ∧ zz_ga M 3 (pa j) = nI i))
theorem pz_ex_succ {pa : Nat → Nat} {i c : Nat} (h : c ≠ pa i) : (∃ j, j < i + 1 ∧ pa j = c) = (∃ j, j < i ∧ pa j = c) := by
  apply propext
  constructor
  · rintro ⟨j, hj, hjc⟩
    by_cases e2 : j = i
    · subst e2; exact absurd hjc.symm h
    · exact ⟨j, by omega, hjc⟩
  · rintro ⟨j, hj, hjc⟩
    exact ⟨j, by omega, hjc⟩
theorem pz_m_join {W H D : Nat} {e : pz_Env} (he : pz_ev W H D e) {k nn : Nat} {M : zz_St} (hm : pz_menv W H D e (nI k) M) {N ts L : Nat} {pa : Nat → Nat} (hN : 2000 ≤ N) (hk : k < 12) (hnn : nn ≤ 12) (h4 : zz_gi M 4 = nI nn) {rip : Bool} {d : Nat → Option Nat}
    (hrow : pz_row (W * H * D) (zz_gA M 16) d) (hrb : pz_rb (W * H * D) d) (hp : pz_pth W H D e rip d L pa) (hroom : ts + L ≤ (W * H * D)) (h11 : zz_ga M 11 k = nI ts) (h17 : ∀ c, c < (W * H * D) → (zz_ga M 17 c = 0 ↔ d c ≠ some 0))
    (hh : ∀ c, c < (W * H * D) → zz_ga M 3 c = -1 ∨ ∃ o, o < 32 ∧ zz_ga M 3 c = nI o) :
    pz_T (zf_X7_join N M (nI k) (nI (pa 0)) (pz_b rip)) (fun M' => ∃ x, pz_mj W H D e nn k ts L pa x M M') := by
  have hs := he.1
  have hz := hs.2.2.2.2.1
  have hp0 := pz_pth_lt hp (i := 0) (by omega)
  have hpl : ∀ i, i ≤ L → pa i < (W * H * D) := fun i hi => pz_pth_lt hp hi
  unfold zf_X7_join
  simp only [pz_T_gd, pz_T_let]
  simp (disch := omega) only [pz_gi_si, pz_gi_si_n, pz_gi_sl, pz_gi_sa, pz_gi_sA, pz_gi_sp, pz_gl_si, pz_gl_sl, pz_gl_sl_n, pz_gl_sa, pz_gl_sA, pz_gl_sp, pz_ga_si, pz_ga_sl, pz_ga_sa, pz_ga_sa_n, pz_ga_sA, pz_ga_sp, pz_gA_si, pz_gA_sl, pz_gA_sa, pz_gA_sA, pz_gA_sA_n, pz_gA_sp, pz_gp_si, pz_gp_sl, pz_gp_sa, pz_gp_sA, pz_gp_sp, pz_gp_sp_n, pz_in, nI_clampI, h11]
  refine ⟨hk, by omega, hk, hk, ?_⟩
  -- the way
  refine pz_fixm2 (fun mm v S5 => ∃ i f g, L - i = mm ∧ i ≤ L ∧ v = nI (pa i) ∧ S5 = pz_m3 (zz_sA M 13 (vp_updL (zz_gA M 13) k (zz_gA M 13 k + zz_gA M 16 (pa 0)))) f g (upd (zz_ga M 11) k (nI (ts + i))) ∧ (∀ c, c < (W * H * D) → f c = if (∃ j, j < i ∧ pa j = c) then 1 else zz_ga M 17 c) ∧ (∀ j, j < i → g (1024 * k + (ts + j)) = nI (pa j)) ∧ ∀ j, (j < 1024 * k + ts ∨ 1024 * k + (ts + i) ≤ j) → g j = zz_ga M 12 j) ?_ N L _ _ ⟨0, zz_ga M 17, zz_ga M 12, rfl, by omega, rfl, ?_, ?_, fun j hj => by omega, fun j _ => rfl⟩ (by omega)
  · rintro rc mm _ _ ⟨i, f, g, rfl, hiL, rfl, rfl, hf, hg1, hg2⟩ hrc
    have hpi := hpl i hiL
    have hfi : f (pa i) = zz_ga M 17 (pa i) := by
      rw [hf (pa i) hpi, if_neg]
      rintro ⟨j, hj, hji⟩
      have := pz_pth_inj hp (by omega) (by omega) hji
      omega
    rw [pz_T_gd, pz_T_ite, pz_in (by omega), nI_clampI (by omega), pz_m3_ga17, hfi]
    refine ⟨by omega, fun h0 => ?_, fun h0 => ?_⟩
    · -- on the way
      have hd0 := (h17 (pa i) hpi).mp h0
      have hiL' : i < L := by
        by_cases e1 : i = L
        · subst e1; exact absurd hp.2.1 hd0
        · omega
      obtain ⟨-, hcan, v, u, h1, h2, h3, h4', hfs⟩ := hp.1 i hiL'
      simp only [pz_T_b1, pz_T_let]
      have hme : pz_menv W H D e (nI k) (pz_m3 (zz_sA M 13 (vp_updL (zz_gA M 13) k (zz_gA M 13 k + zz_gA M 16 (pa 0)))) f g (upd (zz_ga M 11) k (nI (ts + i)))) := pz_menv_of hm (fun _ => rfl) (fun r hr1 hr2 => by rw [pz_m3_ga (by omega) (by omega) (by omega), pz_ga_sA]) (by rw [pz_m3_gA, pz_gA_sA_n (by decide)])
      have hrow' : pz_row (W * H * D) (zz_gA (pz_m3 (zz_sA M 13 (vp_updL (zz_gA M 13) k (zz_gA M 13 k + zz_gA M 16 (pa 0)))) f g (upd (zz_ga M 11) k (nI (ts + i)))) 16) d := by
        rw [pz_m3_gA, pz_gA_sA_n (by decide)]
        exact hrow
      refine pz_T_mono (pz_m_back he (d := d) (rip := rip) (v := v) hme (by omega) hpi hrow' hrb h1) ?_
      intro r hr
      rw [pz_bk_fs hfs hr]
      rw [pz_T_eq (pz_m_comes hk (by omega) (by omega) pk_us)]
      rw [pz_upd2]
      refine hrc (L - (i + 1)) _ _ (by omega) ⟨i + 1, _, _, rfl, by omega, rfl, rfl, ?_, ?_, ?_⟩
      · intro c hc
        by_cases e1 : c = pa i
        · subst e1; rw [pk_us, if_pos ⟨i, by omega, rfl⟩]
        · rw [pk_un e1, hf c hc]
          simp only [pz_ex_succ e1]
      · intro j hj
        by_cases e1 : j = i
        · subst e1; rw [pk_us]
        · rw [pk_un (by omega)]; exact hg1 j (by omega)
      · intro j hj
        rw [pk_un (by omega)]; exact hg2 j (by omega)
    · -- at the tree
      have hiL' : i = L := by
        by_cases e1 : i = L
        · exact e1
        · exfalso
          obtain ⟨-, -, v, u, h1, h2, -⟩ := hp.1 i (by omega)
          exact h0 ((h17 (pa i) hpi).mpr (by rw [h1]; intro h; cases h; omega))
      subst hiL'
      clear hrc hfi h0
      simp only [pz_T_let]
      have hg3 : ∀ j, j < i → g (1024 * k + (ts + j)) = nI (pa j) := hg1
      -- what is torn
      refine pz_fixm3 (fun mm x v S12 => ∃ j sc, i - j = mm ∧ j ≤ i ∧ v = nI (ts + j) ∧ S12 = zz_sA (pz_m3 (zz_sA M 13 (vp_updL (zz_gA M 13) k (zz_gA M 13 k + zz_gA M 16 (pa 0)))) f g (upd (zz_ga M 11) k (nI (ts + i)))) 6 sc ∧ (∀ c, c < (W * H * D) → sc c = lN (if (∃ j', j' < j ∧ pa j' = c) ∧ pe_fg e c = true then pe_hist e c + 1 else pe_hist e c)) ∧ ∀ o, o < 32 → (bt x o = true ↔ ∃ j', j' < j ∧ pe_fg e (pa j') = true ∧ zz_ga M 3 (pa j') = nI o)) ?_ N i _ _ _ ⟨0, zz_gA M 6, rfl, by omega, rfl, ?_, ?_, ?_⟩ (by omega)
      · rintro rc2 mm x _ _ ⟨j, sc, rfl, hji, rfl, rfl, hsc, hx⟩ hrc2
        simp only [pz_T_ite, pz_T_gd, pz_T_jn1, pz_T_jn2, pz_T_some, pz_T_let, pz_T_b1, pz_T_b2]
        simp (disch := omega) only [pz_gi_si, pz_gi_si_n, pz_gi_sl, pz_gi_sa, pz_gi_sA, pz_gi_sp, pz_gl_si, pz_gl_sl, pz_gl_sl_n, pz_gl_sa, pz_gl_sA, pz_gl_sp, pz_ga_si, pz_ga_sl, pz_ga_sa, pz_ga_sa_n, pz_ga_sA, pz_ga_sp, pz_gA_si, pz_gA_sl, pz_gA_sa, pz_gA_sA, pz_gA_sA_n, pz_gA_sp, pz_gp_si, pz_gp_sl, pz_gp_sa, pz_gp_sA, pz_gp_sp, pz_gp_sp_n, pz_m3_gi, pz_m3_gl, pz_m3_gA, pz_m3_gp, pz_m3_ga17, pz_m3_ga12, pz_m3_ga11, pz_m3_ga, pz_m3_sa17, pz_m3_sa12, pz_m3_sa11, pz_in, nI_clampI, pk_us, pz_leI, pz_1024m, nI_add, pz_sAA]
        refine ⟨hk, fun hge => ?_, fun hlt => ?_⟩
        · have hji' : j = i := by omega
          subst hji'
          clear hrc2
          -- laid open
          refine pz_for2 (e := nn) (fun o S17 => ∃ f3 g3 h3 r3, S17 = pz_m4 (zz_sA (pz_m3 (zz_sA M 13 (vp_updL (zz_gA M 13) k (zz_gA M 13 k + zz_gA M 16 (pa 0)))) f g (upd (zz_ga M 11) k (nI (ts + j)))) 6 sc) f3 g3 h3 r3 ∧ (∀ c, c < (W * H * D) → f3 c = pz_rp x o (zz_ga M 3) (zz_ga M 4) c) ∧ (∀ n, n < 12 → g3 n = if n < o ∧ bt x n = true then 0 else zz_ga M 10 n) ∧ (∀ n, n < 12 → h3 n = if n < o ∧ bt x n = true then 0 else upd (zz_ga M 11) k (nI (ts + j)) n) ∧ ∀ n, n < 12 → r3 n = if n < o ∧ bt x n = true then zz_ga M 14 n + 1 else zz_ga M 14 n) ?_ N 0 _ (by omega) ⟨_, _, _, _, pz_m4_id, ?_, ?_, ?_, ?_⟩ (by omega)
          · rintro rc3 o _ ho ⟨f3, g3, h3, r3, rfl, hf3, hg3', hh3, hr3⟩ hrc3
            simp only [pz_T_ite, pz_T_gd, pz_T_jn1, pz_T_jn2, pz_T_some, pz_T_let, pz_T_b1, pz_T_b2]
            simp (disch := omega) only [pz_gi_si, pz_gi_si_n, pz_gi_sl, pz_gi_sa, pz_gi_sA, pz_gi_sp, pz_gl_si, pz_gl_sl, pz_gl_sl_n, pz_gl_sa, pz_gl_sA, pz_gl_sp, pz_ga_si, pz_ga_sl, pz_ga_sa, pz_ga_sa_n, pz_ga_sA, pz_ga_sp, pz_gA_si, pz_gA_sl, pz_gA_sa, pz_gA_sA, pz_gA_sA_n, pz_gA_sp, pz_gp_si, pz_gp_sl, pz_gp_sa, pz_gp_sA, pz_gp_sp, pz_gp_sp_n, pz_m4_gi, pz_m4_gl, pz_m4_gA, pz_m4_gp, pz_m4_ga3, pz_m4_ga10, pz_m4_ga11, pz_m4_ga14, pz_m4_ga, pz_m4_sa3, pz_m4_sa10, pz_m4_sa11, pz_m4_sa14, pz_m3_gi, pz_m3_gl, pz_m3_gA, pz_m3_gp, pz_m3_ga17, pz_m3_ga12, pz_m3_ga11, pz_m3_ga, pz_m3_sa17, pz_m3_sa12, pz_m3_sa11, h4, pz_leI, pz_bt_s, nI_1]
            refine ⟨fun hge3 => ?_, fun hlt3 => ⟨fun hb => ?_, fun hb => ?_⟩⟩
            · have ho' : o = nn := by omega
              subst ho'
              clear hrc3
              have hxk : bt x k = false := by
                cases hq : bt x k
                · rfl
                · obtain ⟨j', hj', hf', hol⟩ := (hx k (by omega)).mp hq
                  exact absurd hol (((hm.2.1 (pa j') (hpl j' (by omega))).2.2.1).mpr hf').2
              have hh3k : h3 k = nI (ts + j) := by
                rw [hh3 k hk, hxk]
                simp [pk_us]
              -- held
              refine pz_fixm2 (fun mm v S22 => ∃ q f4, j - q = mm ∧ q ≤ j ∧ v = nI (ts + q) ∧ S22 = pz_m4 (zz_sA (pz_m3 (zz_sA M 13 (vp_updL (zz_gA M 13) k (zz_gA M 13 k + zz_gA M 16 (pa 0)))) f g (upd (zz_ga M 11) k (nI (ts + j)))) 6 sc) f4 g3 h3 r3 ∧ ∀ c, c < (W * H * D) → f4 c = if (∃ j', j' < q ∧ pa j' = c) then nI k else f3 c) ?_ N j _ _ ⟨0, f3, rfl, by omega, rfl, rfl, fun c hc => ?_⟩ (by omega)
              · rintro rc4 mm _ _ ⟨q, f4, rfl, hqj, rfl, rfl, hf4⟩ hrc4
                simp only [pz_T_ite, pz_T_gd, pz_T_jn1, pz_T_jn2, pz_T_some, pz_T_let, pz_T_b1, pz_T_b2]
                simp (disch := omega) only [pz_gi_si, pz_gi_si_n, pz_gi_sl, pz_gi_sa, pz_gi_sA, pz_gi_sp, pz_gl_si, pz_gl_sl, pz_gl_sl_n, pz_gl_sa, pz_gl_sA, pz_gl_sp, pz_ga_si, pz_ga_sl, pz_ga_sa, pz_ga_sa_n, pz_ga_sA, pz_ga_sp, pz_gA_si, pz_gA_sl, pz_gA_sa, pz_gA_sA, pz_gA_sA_n, pz_gA_sp, pz_gp_si, pz_gp_sl, pz_gp_sa, pz_gp_sA, pz_gp_sp, pz_gp_sp_n, pz_m4_gi, pz_m4_gl, pz_m4_gA, pz_m4_gp, pz_m4_ga3, pz_m4_ga10, pz_m4_ga11, pz_m4_ga14, pz_m4_ga, pz_m4_sa3, pz_m4_sa10, pz_m4_sa11, pz_m4_sa14, pz_m3_gi, pz_m3_gl, pz_m3_gA, pz_m3_gp, pz_m3_ga17, pz_m3_ga12, pz_m3_ga11, pz_m3_ga, pz_m3_sa17, pz_m3_sa12, pz_m3_sa11, pz_in, nI_clampI, hh3k, pz_leI, pz_1024m, nI_add, nI_1]
                refine ⟨hk, fun hge4 => ?_, fun hlt4 => ?_⟩
                · have hqj' : q = j := by omega
                  subst hqj'
                  refine ⟨x, fun _ => rfl, fun _ => rfl, ?_, ?_, ?_, ?_, ?_, ⟨?_, ?_⟩, ?_, ?_, ?_, ?_, hx⟩
                  · intro r q1 q2 q3 q4 q5 q6
                    rw [pz_m4_ga q1 q2 q3 q5, pz_ga_sA, pz_m3_ga q6 q4 q3, pz_ga_sA]
                  · intro r q1 q2
                    rw [pz_m4_gA, pz_gA_sA_n q1, pz_m3_gA, pz_gA_sA_n q2]
                  · simp (disch := omega) only [pz_gi_si, pz_gi_si_n, pz_gi_sl, pz_gi_sa, pz_gi_sA, pz_gi_sp, pz_gl_si, pz_gl_sl, pz_gl_sl_n, pz_gl_sa, pz_gl_sA, pz_gl_sp, pz_ga_si, pz_ga_sl, pz_ga_sa, pz_ga_sa_n, pz_ga_sA, pz_ga_sp, pz_gA_si, pz_gA_sl, pz_gA_sa, pz_gA_sA, pz_gA_sA_n, pz_gA_sp, pz_gp_si, pz_gp_sl, pz_gp_sa, pz_gp_sA, pz_gp_sp, pz_gp_sp_n, pz_m4_gi, pz_m4_gl, pz_m4_gA, pz_m4_gp, pz_m4_ga3, pz_m4_ga10, pz_m4_ga11, pz_m4_ga14, pz_m4_ga, pz_m4_sa3, pz_m4_sa10, pz_m4_sa11, pz_m4_sa14, pz_m3_gi, pz_m3_gl, pz_m3_gA, pz_m3_gp, pz_m3_ga17, pz_m3_ga12, pz_m3_ga11, pz_m3_ga, pz_m3_sa17, pz_m3_sa12, pz_m3_sa11]
                  · intro c hc
                    simp (disch := omega) only [pz_gi_si, pz_gi_si_n, pz_gi_sl, pz_gi_sa, pz_gi_sA, pz_gi_sp, pz_gl_si, pz_gl_sl, pz_gl_sl_n, pz_gl_sa, pz_gl_sA, pz_gl_sp, pz_ga_si, pz_ga_sl, pz_ga_sa, pz_ga_sa_n, pz_ga_sA, pz_ga_sp, pz_gA_si, pz_gA_sl, pz_gA_sa, pz_gA_sA, pz_gA_sA_n, pz_gA_sp, pz_gp_si, pz_gp_sl, pz_gp_sa, pz_gp_sA, pz_gp_sp, pz_gp_sp_n, pz_m4_gi, pz_m4_gl, pz_m4_gA, pz_m4_gp, pz_m4_ga3, pz_m4_ga10, pz_m4_ga11, pz_m4_ga14, pz_m4_ga, pz_m4_sa3, pz_m4_sa10, pz_m4_sa11, pz_m4_sa14, pz_m3_gi, pz_m3_gl, pz_m3_gA, pz_m3_gp, pz_m3_ga17, pz_m3_ga12, pz_m3_ga11, pz_m3_ga, pz_m3_sa17, pz_m3_sa12, pz_m3_sa11]
                    exact hf c hc
                  · intro n hn
                    simp (disch := omega) only [pz_gi_si, pz_gi_si_n, pz_gi_sl, pz_gi_sa, pz_gi_sA, pz_gi_sp, pz_gl_si, pz_gl_sl, pz_gl_sl_n, pz_gl_sa, pz_gl_sA, pz_gl_sp, pz_ga_si, pz_ga_sl, pz_ga_sa, pz_ga_sa_n, pz_ga_sA, pz_ga_sp, pz_gA_si, pz_gA_sl, pz_gA_sa, pz_gA_sA, pz_gA_sA_n, pz_gA_sp, pz_gp_si, pz_gp_sl, pz_gp_sa, pz_gp_sA, pz_gp_sp, pz_gp_sp_n, pz_m4_gi, pz_m4_gl, pz_m4_gA, pz_m4_gp, pz_m4_ga3, pz_m4_ga10, pz_m4_ga11, pz_m4_ga14, pz_m4_ga, pz_m4_sa3, pz_m4_sa10, pz_m4_sa11, pz_m4_sa14, pz_m3_gi, pz_m3_gl, pz_m3_gA, pz_m3_gp, pz_m3_ga17, pz_m3_ga12, pz_m3_ga11, pz_m3_ga, pz_m3_sa17, pz_m3_sa12, pz_m3_sa11]
                    rw [hh3 n hn]
                    by_cases e1 : n = k
                    · subst e1; simp [hxk, pk_us]
                    · rw [pk_un e1, if_neg e1]
                  · intro i' hi'
                    simp (disch := omega) only [pz_gi_si, pz_gi_si_n, pz_gi_sl, pz_gi_sa, pz_gi_sA, pz_gi_sp, pz_gl_si, pz_gl_sl, pz_gl_sl_n, pz_gl_sa, pz_gl_sA, pz_gl_sp, pz_ga_si, pz_ga_sl, pz_ga_sa, pz_ga_sa_n, pz_ga_sA, pz_ga_sp, pz_gA_si, pz_gA_sl, pz_gA_sa, pz_gA_sA, pz_gA_sA_n, pz_gA_sp, pz_gp_si, pz_gp_sl, pz_gp_sa, pz_gp_sA, pz_gp_sp, pz_gp_sp_n, pz_m4_gi, pz_m4_gl, pz_m4_gA, pz_m4_gp, pz_m4_ga3, pz_m4_ga10, pz_m4_ga11, pz_m4_ga14, pz_m4_ga, pz_m4_sa3, pz_m4_sa10, pz_m4_sa11, pz_m4_sa14, pz_m3_gi, pz_m3_gl, pz_m3_gA, pz_m3_gp, pz_m3_ga17, pz_m3_ga12, pz_m3_ga11, pz_m3_ga, pz_m3_sa17, pz_m3_sa12, pz_m3_sa11]
                    exact hg3 i' hi'
                  · intro j' hj'
                    simp (disch := omega) only [pz_gi_si, pz_gi_si_n, pz_gi_sl, pz_gi_sa, pz_gi_sA, pz_gi_sp, pz_gl_si, pz_gl_sl, pz_gl_sl_n, pz_gl_sa, pz_gl_sA, pz_gl_sp, pz_ga_si, pz_ga_sl, pz_ga_sa, pz_ga_sa_n, pz_ga_sA, pz_ga_sp, pz_gA_si, pz_gA_sl, pz_gA_sa, pz_gA_sA, pz_gA_sA_n, pz_gA_sp, pz_gp_si, pz_gp_sl, pz_gp_sa, pz_gp_sA, pz_gp_sp, pz_gp_sp_n, pz_m4_gi, pz_m4_gl, pz_m4_gA, pz_m4_gp, pz_m4_ga3, pz_m4_ga10, pz_m4_ga11, pz_m4_ga14, pz_m4_ga, pz_m4_sa3, pz_m4_sa10, pz_m4_sa11, pz_m4_sa14, pz_m3_gi, pz_m3_gl, pz_m3_gA, pz_m3_gp, pz_m3_ga17, pz_m3_ga12, pz_m3_ga11, pz_m3_ga, pz_m3_sa17, pz_m3_sa12, pz_m3_sa11]
                    exact hg2 j' hj'
                  · intro c hc
                    simp (disch := omega) only [pz_gi_si, pz_gi_si_n, pz_gi_sl, pz_gi_sa, pz_gi_sA, pz_gi_sp, pz_gl_si, pz_gl_sl, pz_gl_sl_n, pz_gl_sa, pz_gl_sA, pz_gl_sp, pz_ga_si, pz_ga_sl, pz_ga_sa, pz_ga_sa_n, pz_ga_sA, pz_ga_sp, pz_gA_si, pz_gA_sl, pz_gA_sa, pz_gA_sA, pz_gA_sA_n, pz_gA_sp, pz_gp_si, pz_gp_sl, pz_gp_sa, pz_gp_sA, pz_gp_sp, pz_gp_sp_n, pz_m4_gi, pz_m4_gl, pz_m4_gA, pz_m4_gp, pz_m4_ga3, pz_m4_ga10, pz_m4_ga11, pz_m4_ga14, pz_m4_ga, pz_m4_sa3, pz_m4_sa10, pz_m4_sa11, pz_m4_sa14, pz_m3_gi, pz_m3_gl, pz_m3_gA, pz_m3_gp, pz_m3_ga17, pz_m3_ga12, pz_m3_ga11, pz_m3_ga, pz_m3_sa17, pz_m3_sa12, pz_m3_sa11]
                    exact hsc c hc
                  · intro c hc
                    simp (disch := omega) only [pz_gi_si, pz_gi_si_n, pz_gi_sl, pz_gi_sa, pz_gi_sA, pz_gi_sp, pz_gl_si, pz_gl_sl, pz_gl_sl_n, pz_gl_sa, pz_gl_sA, pz_gl_sp, pz_ga_si, pz_ga_sl, pz_ga_sa, pz_ga_sa_n, pz_ga_sA, pz_ga_sp, pz_gA_si, pz_gA_sl, pz_gA_sa, pz_gA_sA, pz_gA_sA_n, pz_gA_sp, pz_gp_si, pz_gp_sl, pz_gp_sa, pz_gp_sA, pz_gp_sp, pz_gp_sp_n, pz_m4_gi, pz_m4_gl, pz_m4_gA, pz_m4_gp, pz_m4_ga3, pz_m4_ga10, pz_m4_ga11, pz_m4_ga14, pz_m4_ga, pz_m4_sa3, pz_m4_sa10, pz_m4_sa11, pz_m4_sa14, pz_m3_gi, pz_m3_gl, pz_m3_gA, pz_m3_gp, pz_m3_ga17, pz_m3_ga12, pz_m3_ga11, pz_m3_ga, pz_m3_sa17, pz_m3_sa12, pz_m3_sa11]
                    rw [hf4 c hc, hf3 c hc]
                  · intro n hn
                    simp (disch := omega) only [pz_gi_si, pz_gi_si_n, pz_gi_sl, pz_gi_sa, pz_gi_sA, pz_gi_sp, pz_gl_si, pz_gl_sl, pz_gl_sl_n, pz_gl_sa, pz_gl_sA, pz_gl_sp, pz_ga_si, pz_ga_sl, pz_ga_sa, pz_ga_sa_n, pz_ga_sA, pz_ga_sp, pz_gA_si, pz_gA_sl, pz_gA_sa, pz_gA_sA, pz_gA_sA_n, pz_gA_sp, pz_gp_si, pz_gp_sl, pz_gp_sa, pz_gp_sA, pz_gp_sp, pz_gp_sp_n, pz_m4_gi, pz_m4_gl, pz_m4_gA, pz_m4_gp, pz_m4_ga3, pz_m4_ga10, pz_m4_ga11, pz_m4_ga14, pz_m4_ga, pz_m4_sa3, pz_m4_sa10, pz_m4_sa11, pz_m4_sa14, pz_m3_gi, pz_m3_gl, pz_m3_gA, pz_m3_gp, pz_m3_ga17, pz_m3_ga12, pz_m3_ga11, pz_m3_ga, pz_m3_sa17, pz_m3_sa12, pz_m3_sa11]
                    exact hg3' n hn
                  · intro n hn
                    simp (disch := omega) only [pz_gi_si, pz_gi_si_n, pz_gi_sl, pz_gi_sa, pz_gi_sA, pz_gi_sp, pz_gl_si, pz_gl_sl, pz_gl_sl_n, pz_gl_sa, pz_gl_sA, pz_gl_sp, pz_ga_si, pz_ga_sl, pz_ga_sa, pz_ga_sa_n, pz_ga_sA, pz_ga_sp, pz_gA_si, pz_gA_sl, pz_gA_sa, pz_gA_sA, pz_gA_sA_n, pz_gA_sp, pz_gp_si, pz_gp_sl, pz_gp_sa, pz_gp_sA, pz_gp_sp, pz_gp_sp_n, pz_m4_gi, pz_m4_gl, pz_m4_gA, pz_m4_gp, pz_m4_ga3, pz_m4_ga10, pz_m4_ga11, pz_m4_ga14, pz_m4_ga, pz_m4_sa3, pz_m4_sa10, pz_m4_sa11, pz_m4_sa14, pz_m3_gi, pz_m3_gl, pz_m3_gA, pz_m3_gp, pz_m3_ga17, pz_m3_ga12, pz_m3_ga11, pz_m3_ga, pz_m3_sa17, pz_m3_sa12, pz_m3_sa11]
                    exact hr3 n hn
                · have hq : q < j := by omega
                  have hpq := hpl q (by omega)
                  rw [hg3 q hq]
                  simp (disch := omega) only [pz_in, nI_clampI]
                  refine ⟨by omega, by omega, ?_⟩
                  refine hrc4 (j - (q + 1)) _ _ (by omega) ⟨q + 1, _, rfl, by omega, by rw [Nat.add_assoc], rfl, fun c hc => ?_⟩
                  by_cases e1 : c = pa q
                  · subst e1; rw [pk_us, if_pos ⟨q, by omega, rfl⟩]
                  · rw [pk_un e1, hf4 c hc]
                    simp only [pz_ex_succ e1]
              · rw [if_neg]
                rintro ⟨j', hj', -⟩
                omega
            · refine hrc3 (by omega) _ ⟨f3, g3, h3, r3, rfl, fun c hc => ?_, fun n hn => ?_, fun n hn => ?_, fun n hn => ?_⟩
              · rw [hf3 c hc, pz_rp_f hb]
              all_goals
                first | rw [hg3' n hn] | rw [hh3 n hn] | rw [hr3 n hn]
                by_cases e1 : n = o
                · subst e1; simp [hb]
                · have : (n < o + 1) = (n < o) := by apply propext; omega
                  simp only [this]
            · have hb' : bt x o = true := by simpa using hb
              refine pz_T_mono (pz_m_loosen (by omega) (by omega)) ?_
              rintro _ ⟨f5, rfl, hf5⟩
              simp (disch := omega) only [pz_gi_si, pz_gi_si_n, pz_gi_sl, pz_gi_sa, pz_gi_sA, pz_gi_sp, pz_gl_si, pz_gl_sl, pz_gl_sl_n, pz_gl_sa, pz_gl_sA, pz_gl_sp, pz_ga_si, pz_ga_sl, pz_ga_sa, pz_ga_sa_n, pz_ga_sA, pz_ga_sp, pz_gA_si, pz_gA_sl, pz_gA_sa, pz_gA_sA, pz_gA_sA_n, pz_gA_sp, pz_gp_si, pz_gp_sl, pz_gp_sa, pz_gp_sA, pz_gp_sp, pz_gp_sp_n, pz_m4_gi, pz_m4_gl, pz_m4_gA, pz_m4_gp, pz_m4_ga3, pz_m4_ga10, pz_m4_ga11, pz_m4_ga14, pz_m4_ga, pz_m4_sa3, pz_m4_sa10, pz_m4_sa11, pz_m4_sa14, pz_m3_gi, pz_m3_gl, pz_m3_gA, pz_m3_gp, pz_m3_ga17, pz_m3_ga12, pz_m3_ga11, pz_m3_ga, pz_m3_sa17, pz_m3_sa12, pz_m3_sa11, pz_in, nI_clampI] at hf5 ⊢
              refine ⟨by omega, by omega, hrc3 (by omega) _ ⟨_, _, _, _, rfl, fun c hc => ?_, fun n hn => ?_, fun n hn => ?_, fun n hn => ?_⟩⟩
              · rw [hf5 c (by omega), pz_rp_t (by omega) (hh c hc) hb', hf3 c hc]
              · by_cases e1 : n = o
                · subst e1; rw [pk_us, if_pos ⟨by omega, hb'⟩]
                · have : (n < o + 1) = (n < o) := by apply propext; omega
                  simp only [this]
                  rw [pk_un e1]
                  exact hg3' n hn
              · by_cases e1 : n = o
                · subst e1; rw [pk_us, if_pos ⟨by omega, hb'⟩]
                · have : (n < o + 1) = (n < o) := by apply propext; omega
                  simp only [this]
                  rw [pk_un e1]
                  exact hh3 n hn
              · by_cases e1 : n = o
                · subst e1
                  rw [pk_us, if_pos ⟨by omega, hb'⟩, hr3 n hn, if_neg (by omega)]
                · have : (n < o + 1) = (n < o) := by apply propext; omega
                  simp only [this]
                  rw [pk_un e1]
                  exact hr3 n hn
          · intro c hc
            simp (disch := omega) only [pz_gi_si, pz_gi_si_n, pz_gi_sl, pz_gi_sa, pz_gi_sA, pz_gi_sp, pz_gl_si, pz_gl_sl, pz_gl_sl_n, pz_gl_sa, pz_gl_sA, pz_gl_sp, pz_ga_si, pz_ga_sl, pz_ga_sa, pz_ga_sa_n, pz_ga_sA, pz_ga_sp, pz_gA_si, pz_gA_sl, pz_gA_sa, pz_gA_sA, pz_gA_sA_n, pz_gA_sp, pz_gp_si, pz_gp_sl, pz_gp_sa, pz_gp_sA, pz_gp_sp, pz_gp_sp_n, pz_m3_gi, pz_m3_gl, pz_m3_gA, pz_m3_gp, pz_m3_ga17, pz_m3_ga12, pz_m3_ga11, pz_m3_ga, pz_m3_sa17, pz_m3_sa12, pz_m3_sa11]
            exact pz_rp_0.symm
          · intro n hn
            simp (disch := omega) only [pz_gi_si, pz_gi_si_n, pz_gi_sl, pz_gi_sa, pz_gi_sA, pz_gi_sp, pz_gl_si, pz_gl_sl, pz_gl_sl_n, pz_gl_sa, pz_gl_sA, pz_gl_sp, pz_ga_si, pz_ga_sl, pz_ga_sa, pz_ga_sa_n, pz_ga_sA, pz_ga_sp, pz_gA_si, pz_gA_sl, pz_gA_sa, pz_gA_sA, pz_gA_sA_n, pz_gA_sp, pz_gp_si, pz_gp_sl, pz_gp_sa, pz_gp_sA, pz_gp_sp, pz_gp_sp_n, pz_m3_gi, pz_m3_gl, pz_m3_gA, pz_m3_gp, pz_m3_ga17, pz_m3_ga12, pz_m3_ga11, pz_m3_ga, pz_m3_sa17, pz_m3_sa12, pz_m3_sa11]
            simp
          · intro n hn
            simp (disch := omega) only [pz_gi_si, pz_gi_si_n, pz_gi_sl, pz_gi_sa, pz_gi_sA, pz_gi_sp, pz_gl_si, pz_gl_sl, pz_gl_sl_n, pz_gl_sa, pz_gl_sA, pz_gl_sp, pz_ga_si, pz_ga_sl, pz_ga_sa, pz_ga_sa_n, pz_ga_sA, pz_ga_sp, pz_gA_si, pz_gA_sl, pz_gA_sa, pz_gA_sA, pz_gA_sA_n, pz_gA_sp, pz_gp_si, pz_gp_sl, pz_gp_sa, pz_gp_sA, pz_gp_sp, pz_gp_sp_n, pz_m3_gi, pz_m3_gl, pz_m3_gA, pz_m3_gp, pz_m3_ga17, pz_m3_ga12, pz_m3_ga11, pz_m3_ga, pz_m3_sa17, pz_m3_sa12, pz_m3_sa11]
            simp
          · intro n hn
            simp (disch := omega) only [pz_gi_si, pz_gi_si_n, pz_gi_sl, pz_gi_sa, pz_gi_sA, pz_gi_sp, pz_gl_si, pz_gl_sl, pz_gl_sl_n, pz_gl_sa, pz_gl_sA, pz_gl_sp, pz_ga_si, pz_ga_sl, pz_ga_sa, pz_ga_sa_n, pz_ga_sA, pz_ga_sp, pz_gA_si, pz_gA_sl, pz_gA_sa, pz_gA_sA, pz_gA_sA_n, pz_gA_sp, pz_gp_si, pz_gp_sl, pz_gp_sa, pz_gp_sA, pz_gp_sp, pz_gp_sp_n, pz_m3_gi, pz_m3_gl, pz_m3_gA, pz_m3_gp, pz_m3_ga17, pz_m3_ga12, pz_m3_ga11, pz_m3_ga, pz_m3_sa17, pz_m3_sa12, pz_m3_sa11]
            simp
        · have hj : j < i := by omega
          have hpj := hpl j (by omega)
          have hfj := (hm.2.1 (pa j) hpj).2.2.1
          have hhj := he.2.2 (pa j) hpj
          rw [hg3 j hj]
          simp (disch := omega) only [pz_in, nI_clampI, nI_1]
          have hnew : ¬ ∃ j', j' < j ∧ pa j' = pa j := by
            rintro ⟨j', hj', hji2⟩
            have := pz_pth_inj hp (by omega) (by omega) hji2
            omega
          have hscj : sc (pa j) = lN (pe_hist e (pa j)) := by
            rw [hsc (pa j) hpj, if_neg (fun h => hnew h.1)]
          have hno : pe_fg e (pa j) = false → pz_T (rc2 x (nI (ts + j + 1)) (zz_sA (pz_m3 (zz_sA M 13 (vp_updL (zz_gA M 13) k (zz_gA M 13 k + zz_gA M 16 (pa 0)))) f g (upd (zz_ga M 11) k (nI (ts + i)))) 6 sc)) (fun M' => ∃ x, pz_mj W H D e nn k ts i pa x M M') := by
            intro hfg
            refine hrc2 (i - (j + 1)) _ _ _ (by omega) ⟨j + 1, sc, rfl, by omega, by rw [Nat.add_assoc], rfl, fun c hc => ?_, fun o ho => ?_⟩
            · rw [hsc c hc]
              by_cases e1 : c = pa j
              · subst e1; simp [hfg]
              · simp only [pz_ex_succ e1]
            · rw [hx o ho]
              constructor
              · rintro ⟨j', hj', h⟩
                exact ⟨j', by omega, h⟩
              · rintro ⟨j', hj', hjf, h⟩
                by_cases e2 : j' = j
                · subst e2; rw [hfg] at hjf; cases hjf
                · exact ⟨j', by omega, hjf, h⟩
          refine ⟨by omega, by omega, fun q1 => hno ?_, fun q1 => ⟨by omega, fun q2 => hno ?_, fun q2 => ⟨by omega, by omega, by omega, ?_⟩⟩⟩
          · cases hf' : pe_fg e (pa j)
            · rfl
            · exact absurd q1 (hfj.mpr hf').1
          · cases hf' : pe_fg e (pa j)
            · rfl
            · exact absurd q2 (hfj.mpr hf').2
          · have hf' := hfj.mp ⟨q1, q2⟩
            obtain ⟨o, ho, hol⟩ : ∃ o, o < 32 ∧ zz_ga M 3 (pa j) = nI o := by
              rcases hh (pa j) hpj with h | h
              · exact absurd h q1
              · exact h
            rw [hol]
            refine hrc2 (i - (j + 1)) _ _ _ (by omega) ⟨j + 1, _, rfl, by omega, by rw [Nat.add_assoc], rfl, fun c hc => ?_, fun o' ho' => ?_⟩
            · by_cases e1 : c = pa j
              · subst e1
                rw [pk_uLs, hscj, lN_1, if_pos ⟨⟨j, by omega, rfl⟩, hf'⟩]
              · rw [pk_uLn e1, hsc c hc]
                simp only [pz_ex_succ e1]
            · rw [pz_bt_or ho ho']
              simp only [Bool.or_eq_true, decide_eq_true_eq]
              rw [hx o' ho']
              constructor
              · rintro (⟨j', hj', h⟩ | h)
                · exact ⟨j', by omega, h⟩
                · subst h; exact ⟨j, by omega, hf', hol⟩
              · rintro ⟨j', hj', hjf, h⟩
                by_cases e2 : j' = j
                · subst e2
                  rw [hol, pz_eqI (by omega) (by omega)] at h
                  exact Or.inr h.symm
                · exact Or.inl ⟨j', by omega, hjf, h⟩
      · have : zz_gA M 6 = zz_gA (pz_m3 (zz_sA M 13 (vp_updL (zz_gA M 13) k (zz_gA M 13 k + zz_gA M 16 (pa 0)))) f g (upd (zz_ga M 11) k (nI (ts + i)))) 6 := by
          simp (disch := omega) only [pz_m3_gi, pz_m3_gl, pz_m3_gA, pz_m3_gp, pz_m3_ga17, pz_m3_ga12, pz_m3_ga11, pz_m3_ga, pz_m3_sa17, pz_m3_sa12, pz_m3_sa11, pz_gi_si, pz_gi_si_n, pz_gi_sl, pz_gi_sa, pz_gi_sA, pz_gi_sp, pz_gl_si, pz_gl_sl, pz_gl_sl_n, pz_gl_sa, pz_gl_sA, pz_gl_sp, pz_ga_si, pz_ga_sl, pz_ga_sa, pz_ga_sa_n, pz_ga_sA, pz_ga_sp, pz_gA_si, pz_gA_sl, pz_gA_sa, pz_gA_sA, pz_gA_sA_n, pz_gA_sp, pz_gp_si, pz_gp_sl, pz_gp_sa, pz_gp_sA, pz_gp_sp, pz_gp_sp_n]
        rw [this, pz_sA_id]
      · intro c hc
        rw [(hm.2.1 c hc).2.2.2, if_neg]
        rintro ⟨⟨j, hj, -⟩, -⟩
        omega
      · intro o ho
        rw [b_0]
        exact ⟨fun h => (by cases h), fun ⟨j, h, _⟩ => by omega⟩
  · have h := pz_m3_id (S := zz_sA M 13 (vp_updL (zz_gA M 13) k (zz_gA M 13 k + zz_gA M 16 (pa 0))))
    simp only [pz_ga_sA] at h
    have h2 : upd (zz_ga M 11) k (nI (ts + 0)) = zz_ga M 11 := by
      funext j
      unfold upd
      by_cases e1 : j = k
      · subst e1; rw [if_pos rfl, h11]; rfl
      · rw [if_neg e1]
    rw [h2]
    exact h
  · intro c hc
    rw [if_neg]
    rintro ⟨j, hj, -⟩
    omega

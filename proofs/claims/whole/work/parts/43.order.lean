def pr_nx (s : Int64) : Int64 := s * ((6364136223846793005 : Int64)) + ((1442695040888963407 : Int64))
def pr_dr (s : Int64) (m : Nat) : Nat := (s.toBitVec.toNat / 2 ^ 33) % m
theorem pr_dr_lt {s : Int64} {m : Nat} (h : 0 < m) : pr_dr s m < m := Nat.mod_lt _ h
theorem pr_dr_v (s : Int64) : (s.toUInt64 >>> (((33 : Int32)).toInt64.toUInt64 &&& Int64.toUInt64 63)).toInt64 = lN (s.toBitVec.toNat / 2 ^ 33) := by
  obtain ⟨n, hn, rfl⟩ := wb_of s
  have h := wb_shr (n := n) (k := 33) hn (by decide)
  rw [wb_tn hn]
  exact h
theorem pr_dr_r {s : Int64} {m : Nat} (h0 : 0 < m) (hm : m < 1000) : (lN (s.toBitVec.toNat / 2 ^ 33) - lN (s.toBitVec.toNat / 2 ^ 33) / lN m * lN m).toInt32 = nI (pr_dr s m) := by
  have h1 : s.toBitVec.toNat / 2 ^ 33 < 9223372036854775808 := by
    have := s.toBitVec.isLt
    omega
  rw [pk_lRem h1 h0 (by omega), lN_i]
  rfl
def pr_sw (l : Nat → Nat) (a b : Nat) : Nat → Nat := fun i => if i = b then l a else if i = a then l b else l i
def pr_shg (nx : Int64 → Int64) (dr : Int64 → Nat → Nat) : Nat → (Nat → Nat) → Int64 → (Nat → Nat) × Int64
  | 0, l, s => (l, s)
  | k + 1, l, s => pr_shg nx dr k (pr_sw l (k + 1) (dr (nx s) (k + 2))) (nx s)
theorem pr_shg_0 {nx : Int64 → Int64} {dr : Int64 → Nat → Nat} {l : Nat → Nat} {s : Int64} : pr_shg nx dr 0 l s = (l, s) := rfl
theorem pr_shg_s {nx : Int64 → Int64} {dr : Int64 → Nat → Nat} {k : Nat} {l : Nat → Nat} {s : Int64} : pr_shg nx dr (k + 1) l s = pr_shg nx dr k (pr_sw l (k + 1) (dr (nx s) (k + 2))) (nx s) := rfl
theorem pr_shg_p {nx : Int64 → Int64} {dr : Int64 → Nat → Nat} {k : Nat} (hk : 0 < k) {l : Nat → Nat} {s : Int64} : pr_shg nx dr k l s = pr_shg nx dr (k - 1) (pr_sw l k (dr (nx s) (k + 1))) (nx s) := by
  obtain ⟨j, rfl⟩ : ∃ j, k = j + 1 := ⟨k - 1, by omega⟩
  rw [pr_shg_s]
  rfl
theorem pr_shg_lt {nx : Int64 → Int64} {dr : Int64 → Nat → Nat} (hdr : ∀ s m, 0 < m → dr s m < m) {n cnt : Nat} : ∀ (k : Nat) (l : Nat → Nat) (s : Int64), k < cnt → (∀ i, i < cnt → l i < n) → ∀ i, i < cnt → (pr_shg nx dr k l s).1 i < n := by
  intro k
  induction k with
  | zero => intro l s _ h; exact h
  | succ k ih =>
    intro l s hk h
    rw [pr_shg_s]
    refine ih _ _ (by omega) ?_
    have hd := hdr (nx s) (k + 2) (by omega)
    intro i hi
    unfold pr_sw
    split
    · exact h _ (by omega)
    · split
      · exact h _ (by omega)
      · exact h i hi
/-- those of P below n, rising -/
def pr_sel (P : Nat → Bool) : Nat → Nat → Nat
  | 0 => fun _ => 0
  | n + 1 => if P n then (fun i => if i = pz_cnt P n then n else pr_sel P n i) else pr_sel P n
theorem pr_sel_lt {P : Nat → Bool} {n : Nat} : ∀ i, i < pz_cnt P n → pr_sel P n i < n := by
  induction n with
  | zero => intro i hi; simp [pz_cnt] at hi
  | succ n ih =>
    intro i hi
    by_cases hp : P n = true
    · rw [pr_cnt_s hp] at hi
      simp only [pr_sel, hp, if_true]
      split
      · omega
      · have := ih i (by omega); omega
    · have hp' : P n = false := by simpa using hp
      rw [pr_cnt_f hp'] at hi
      simp only [pr_sel, hp']
      have := ih i hi
      simp
      omega
theorem pr_sel_t {P : Nat → Bool} {n i : Nat} (hp : P n = true) : pr_sel P (n + 1) i = if i = pz_cnt P n then n else pr_sel P n i := by
  simp only [pr_sel, hp, if_true]
theorem pr_sel_f {P : Nat → Bool} {n i : Nat} (hp : P n = false) : pr_sel P (n + 1) i = pr_sel P n i := by
  simp [pr_sel, hp]
theorem pr_sel_sp {P : Nat → Bool} {n : Nat} : ∀ i, i < pz_cnt P n → P (pr_sel P n i) = true := by
  induction n with
  | zero => intro i hi; simp [pz_cnt] at hi
  | succ n ih =>
    intro i hi
    by_cases hp : P n = true
    · rw [pr_cnt_s hp] at hi
      rw [pr_sel_t hp]
      split
      · exact hp
      · exact ih i (by omega)
    · have hp' : P n = false := by simpa using hp
      rw [pr_cnt_f hp'] at hi
      rw [pr_sel_f hp']
      exact ih i hi
/-- the row that is shuffled, and the seed -/
def pr_r (S : zz_St) (r : Nat) (f : Nat → Int32) (s : Int64) : zz_St := zz_sl (zz_sa S r f) 0 s
theorem pr_r_ga {S : zz_St} {r : Nat} {f : Nat → Int32} {s : Int64} : zz_ga (pr_r S r f s) r = f := by unfold pr_r; rw [pz_ga_sl, pz_ga_sa]
theorem pr_r_gl {S : zz_St} {r : Nat} {f : Nat → Int32} {s : Int64} : zz_gl (pr_r S r f s) 0 = s := by unfold pr_r; rw [pz_gl_sl]
theorem pr_r_sl {S : zz_St} {r : Nat} {f : Nat → Int32} {s s' : Int64} : zz_sl (pr_r S r f s) 0 s' = pr_r S r f s' := by
  unfold pr_r zz_sl
  simp only [pz_up_up]
theorem pr_r_sa {S : zz_St} {r : Nat} {f f' : Nat → Int32} {s : Int64} : zz_sa (pr_r S r f s) r f' = pr_r S r f' s := by
  unfold pr_r zz_sl zz_sa
  simp only [pz_up_up]
theorem pr_r_id {S : zz_St} {r : Nat} : S = pr_r S r (zz_ga S r) (zz_gl S 0) := by
  unfold pr_r
  rw [pz_sa_id]
  unfold zz_sl zz_gl
  rw [pz_up_id]
theorem pr_c_draw {N z : Nat} {S : zz_St} {f : Nat → Int32} {s : Int64} : zf_X6_draw N z (pr_r S 7 f s) = some (lN ((pr_nx s).toBitVec.toNat / 2 ^ 33), pr_r S 7 f (pr_nx s)) := by
  unfold zf_X6_draw
  simp only [zz_let, pr_r_gl, pr_r_sl]
  exact congrArg (fun y => some (y, pr_r S 7 f (pr_nx s))) (pr_dr_v (pr_nx s))
theorem pr_m_draw {N : Nat} {S : zz_St} {f : Nat → Int32} {s : Int64} : zf_X7_draw N (pr_r S 18 f s) = some (lN ((pr_nx s).toBitVec.toNat / 2 ^ 33), pr_r S 18 f (pr_nx s)) := by
  unfold zf_X7_draw
  simp only [zz_let, pr_r_gl, pr_r_sl]
  exact congrArg (fun y => some (y, pr_r S 18 f (pr_nx s))) (pr_dr_v (pr_nx s))
theorem pr_l1 {k : Nat} (h : k < 1000) : (nI k + ((1 : Int32))).toInt64 = lN (k + 1) := by
  rw [nI_1, nI_l (by omega)]
theorem pr_l1ne {k : Nat} (h : k < 1000) : (!(lN (k + 1) == 0)) = true := by
  have : (lN (k + 1) = 0) = False := by
    rw [show ((0 : Int64)) = lN 0 from rfl, pz_lN_eq (by omega) (by omega)]
    simp
  have h2 : ¬ lN (k + 1) = 0 := by rw [this]; exact fun h => h
  simp [h2]
theorem pr_upd_sw {f : Nat → Int32} {l : Nat → Nat} {cnt a b : Nat} (hf : ∀ i, i < cnt → f i = nI (l i)) (ha : a < cnt) (hb : b < cnt) : ∀ i, i < cnt → upd (upd f a (f b)) b (f a) i = nI (pr_sw l a b i) := by
  intro i hi
  unfold pr_sw
  by_cases e1 : i = b
  · subst e1; rw [pk_us, if_pos rfl]; exact hf a ha
  · rw [pk_un e1, if_neg e1]
    by_cases e2 : i = a
    · subst e2; rw [pk_us, if_pos rfl]; exact hf b hb
    · rw [pk_un e2, if_neg e2]; exact hf i hi
theorem pr_c_order {N z nn : Nat} {S : zz_St} {x : Int32} {P : Nat → Bool} (hN : 2000 ≤ N) (hnn : nn ≤ 12) (h0 : zz_gi S 0 = nI nn) (hx : ∀ i, i < nn → bt x i = P i) :
    pz_T (zf_X6_putInOrder N z S x) (fun r => ∃ f, r = (nI (pz_cnt P nn), pr_r S 7 f (pr_shg pr_nx pr_dr (pz_cnt P nn - 1) (pr_sel P nn) (zz_gl S 0)).2) ∧ ∀ i, i < pz_cnt P nn → f i = nI ((pr_shg pr_nx pr_dr (pz_cnt P nn - 1) (pr_sel P nn) (zz_gl S 0)).1 i)) := by
  unfold zf_X6_putInOrder
  rw [pz_T_let, pz_T_let]
  refine pz_for3 (e := nn) (fun m v S5 => v = nI (pz_cnt P m) ∧ ∃ f, S5 = pr_r S 7 f (zz_gl S 0) ∧ ∀ i, i < pz_cnt P m → f i = nI (pr_sel P m i)) ?_ N 0 _ _ (by omega) ⟨rfl, zz_ga S 7, pr_r_id, fun i hi => by simp [pz_cnt] at hi⟩ (by omega)
  rintro rc m _ _ hm ⟨rfl, f, rfl, hf⟩ hrc
  have hcm := pz_cnt_le P m
  have hcn := pz_cnt_le P nn
  have hcmn := pr_cnt_n (P := P) hm
  have h0' : zz_gi (pr_r S 7 f (zz_gl S 0)) 0 = nI nn := h0
  simp only [pz_T_ite, h0']
  rw [pz_leI (by omega) (by omega)]
  refine ⟨fun hge => ?_, fun hlt => ?_⟩
  · have : m = nn := by omega
    subst this
    clear hrc
    rw [pz_T_let]
    by_cases hc0 : pz_cnt P m = 0
    · refine pz_fixm2 (fun mm v S10 => mm = 0 ∧ v = nI (pz_cnt P m) - 1 ∧ S10 = pr_r S 7 f (zz_gl S 0)) ?_ N 0 _ _ ⟨rfl, rfl, rfl⟩ (by omega)
      rintro rc2 mm _ _ ⟨-, rfl, rfl⟩ -
      rw [hc0]
      have e0 : (nI 0 - (1 : Int32)) < 1 := by decide
      simp only [pz_T_ite, pz_T_gd, pz_T_jn1, pz_T_jn2, pz_T_some, pz_T_let, pz_T_b1, pz_T_b2]
      refine ⟨fun _ => ⟨f, rfl, fun i hi => by omega⟩, fun h => absurd e0 h⟩
    · rw [pz_sub1 (by omega)]
      refine pz_fixm2 (fun mm v S10 => ∃ l f s, v = nI mm ∧ mm < pz_cnt P m ∧ S10 = pr_r S 7 f s ∧ (∀ i, i < pz_cnt P m → f i = nI (l i)) ∧ pr_shg pr_nx pr_dr mm l s = pr_shg pr_nx pr_dr (pz_cnt P m - 1) (pr_sel P m) (zz_gl S 0)) ?_ N (pz_cnt P m - 1) _ _ ⟨pr_sel P m, f, zz_gl S 0, rfl, by omega, rfl, hf, rfl⟩ (by omega)
      rintro rc2 mm _ _ ⟨l, g, s, rfl, hmm, rfl, hg, hsh⟩ hrc2
      simp only [pz_T_ite, pz_T_gd, pz_T_jn1, pz_T_jn2, pz_T_some, pz_T_let, pz_T_b1, pz_T_b2]
      rw [pz_c1d (by omega)]
      refine ⟨fun hlt1 => ?_, fun hge1 => ?_⟩
      · have : mm = 0 := by omega
        subst this
        rw [← hsh]
        exact ⟨g, rfl, hg⟩
      · rw [pz_T_eq pr_c_draw]
        have hdr := pr_dr_lt (s := pr_nx s) (m := mm + 1) (by omega)
        simp only [pr_l1 (show mm < 1000 by omega), pr_l1ne (show mm < 1000 by omega), pr_dr_r (s := pr_nx s) (show 0 < mm + 1 by omega) (by omega)]
        simp (disch := omega) only [pz_in, nI_clampI, pr_r_ga, pr_r_sa, pz_addm1]
        refine ⟨trivial, by omega, by omega, by omega, by omega, hrc2 (mm - 1) _ _ (by omega) ⟨pr_sw l mm (pr_dr (pr_nx s) (mm + 1)), _, pr_nx s, rfl, by omega, rfl, pr_upd_sw hg hmm (by omega), ?_⟩⟩
        rw [← hsh, pr_shg_p (k := mm) (by omega)]
  · simp only [pz_T_ite, pz_T_gd, pz_T_jn1, pz_T_jn2, pz_T_some, pz_T_let, pz_T_b1, pz_T_b2]
    rw [pz_bt_u (by omega), hx m (by omega)]
    simp (disch := omega) only [nI_1, pz_in, nI_clampI, pr_r_ga, pr_r_sa]
    refine ⟨fun hp => hrc (by omega) _ _ ⟨by rw [pr_cnt_f hp], f, rfl, fun i hi => ?_⟩, fun hp => ?_⟩
    · rw [pr_cnt_f hp] at hi
      rw [pr_sel_f hp]
      exact hf i hi
    · have hp' : P m = true := by simpa using hp
      refine ⟨by omega, hrc (by omega) _ _ ⟨by rw [pr_cnt_s hp'], _, rfl, fun i hi => ?_⟩⟩
      rw [pr_cnt_s hp'] at hi
      rw [pr_sel_t hp']
      by_cases e1 : i = pz_cnt P m
      · subst e1; rw [pk_us, if_pos rfl]
      · rw [pk_un e1, if_neg e1]
        exact hf i (by omega)

theorem wb_tb (n : Nat) : (lN n).toBitVec = BitVec.ofNat 64 n := rfl
theorem wb_inj {a b : Int64} (h : a.toBitVec = b.toBitVec) : a = b := Int64.toBitVec_inj.mp h
theorem wb_tn {n : Nat} (h : n < 2 ^ 64) : (lN n).toBitVec.toNat = n := by rw [wb_tb, BitVec.toNat_ofNat, Nat.mod_eq_of_lt h]
theorem wb_of (x : Int64) : ∃ n, n < 2 ^ 64 ∧ x = lN n := ⟨x.toBitVec.toNat, x.toBitVec.isLt, wb_inj (by rw [wb_tb]; simp)⟩
theorem wb_of32 (x : Int32) : ∃ n, n < 2 ^ 32 ∧ x = nI n := ⟨x.toBitVec.toNat, x.toBitVec.isLt, Int32.toBitVec_inj.mp (by show _ = BitVec.ofNat 32 _; simp)⟩
theorem wb_c : ∀ k, k < 64 → ((nI k).toInt64 &&& 63) = lN k := by decide +kernel
theorem wb_cu : ∀ k, k < 64 → ((nI k).toInt64.toUInt64 &&& Int64.toUInt64 63) = UInt64.ofNat k := by decide +kernel
theorem wb_sm : ∀ k, k < 64 → (BitVec.ofNat 64 k).smod 64 = BitVec.ofNat 64 k := by decide +kernel
theorem wb_pw {a b : Nat} (h : a ≤ b) : 2 ^ b = 2 ^ a * 2 ^ (b - a) := by rw [← Nat.pow_add]; congr 1; omega
theorem wb_lt2 {a b : Nat} (h : a < b) : 2 ^ a < 2 ^ b := Nat.pow_lt_pow_right (by decide) h
theorem wb_mod (n : Nat) : lN n = lN (n % 2 ^ 64) := wb_inj (by rw [wb_tb, wb_tb]; apply BitVec.eq_of_toNat_eq; rw [BitVec.toNat_ofNat, BitVec.toNat_ofNat, Nat.mod_mod])
theorem wb_shr {n k : Nat} (hn : n < 2 ^ 64) (hk : k < 64) : ((lN n).toUInt64 >>> ((nI k).toInt64.toUInt64 &&& Int64.toUInt64 63)).toInt64 = lN (n / 2 ^ k) := by
  rw [wb_cu k hk]
  apply wb_inj
  apply BitVec.eq_of_toNat_eq
  show ((lN n).toUInt64 >>> UInt64.ofNat k).toNat = (BitVec.ofNat 64 _).toNat
  have h1 : (UInt64.ofNat k).toNat = k := by
    show (BitVec.ofNat 64 k).toNat = k
    rw [BitVec.toNat_ofNat, Nat.mod_eq_of_lt (by omega)]
  have h2 : (lN n).toUInt64.toNat = n := wb_tn hn
  rw [UInt64.toNat_shiftRight, h1, h2, Nat.mod_eq_of_lt hk, Nat.shiftRight_eq_div_pow, BitVec.toNat_ofNat, Nat.mod_eq_of_lt (Nat.lt_of_le_of_lt (Nat.div_le_self _ _) hn)]

theorem pr_cnt_n {P : Nat → Bool} {m n : Nat} (h : m ≤ n) : pz_cnt P m ≤ pz_cnt P n := by
  induction n with
  | zero =>
    have : m = 0 := by omega
    subst this
    exact Nat.le_refl _
  | succ n ih =>
    by_cases e1 : m = n + 1
    · subst e1; exact Nat.le_refl _
    · have := ih (by omega)
      simp only [pz_cnt]
      split <;> omega
theorem pr_cnt_s {P : Nat → Bool} {m : Nat} (h : P m = true) : pz_cnt P (m + 1) = pz_cnt P m + 1 := by simp [pz_cnt, h]
theorem pr_cnt_f {P : Nat → Bool} {m : Nat} (h : P m = false) : pz_cnt P (m + 1) = pz_cnt P m := by simp [pz_cnt, h]
theorem pr_cnt_ge {P : Nat → Bool} {m n : Nat} (h : m < n) (hp : P m = true) : pz_cnt P m + 1 ≤ pz_cnt P n := by
  have := pr_cnt_n (P := P) (m := m + 1) (n := n) h
  rw [pr_cnt_s hp] at this
  exact this
theorem pr_cnt_tail {P : Nat → Bool} {m n : Nat} (h : m ≤ n) (hf : ∀ i, m ≤ i → i < n → P i = false) : pz_cnt P n = pz_cnt P m := by
  induction n with
  | zero =>
    have : m = 0 := by omega
    subst this
    rfl
  | succ n ih =>
    by_cases e1 : m = n + 1
    · subst e1; rfl
    · rw [pr_cnt_f (hf n (by omega) (by omega))]
      exact ih (by omega) (fun i h1 h2 => hf i h1 (by omega))
theorem pr_cnt_0 {P : Nat → Bool} {n : Nat} : pz_cnt P n = 0 ↔ ∀ i, i < n → P i = false := by
  constructor
  · intro h i hi
    cases hp : P i
    · rfl
    · have := pr_cnt_ge hi hp; omega
  · intro h
    have := pr_cnt_tail (P := P) (m := 0) (n := n) (by omega) (fun i _ hi => h i hi)
    rw [this]
    rfl
/-- the k-th of those below n -/
def pr_kth (P : Nat → Bool) (n : Nat) (k v : Int32) : Prop := (∃ m, m < n ∧ P m = true ∧ k = nI (pz_cnt P m) ∧ v = nI m) ∨ (v = -1 ∧ (k < 0 ∨ ∃ j, j < 2147483648 ∧ k = nI j ∧ pz_cnt P n ≤ j))
theorem pr_kth_uq {P : Nat → Bool} {n : Nat} {k v v' : Int32} (hn : n ≤ 32) (h : pr_kth P n k v) (h' : pr_kth P n k v') : v = v' := by
  have hc : ∀ m, m ≤ 32 → pz_cnt P m < 2147483648 := fun m hm => by have := pz_cnt_le P m; omega
  have key : ∀ m, m < n → P m = true → k = nI (pz_cnt P m) → (k < 0 ∨ ∃ j, j < 2147483648 ∧ k = nI j ∧ pz_cnt P n ≤ j) → False := by
    intro m hm hp hk hx
    rcases hx with hx | ⟨j, hj, hkj, hx⟩
    · rw [hk, pz_n0 (hc m (by omega))] at hx
      exact hx
    · rw [hk, pz_eqI (hc m (by omega)) hj] at hkj
      have := pr_cnt_ge hm hp
      omega
  rcases h with ⟨m, hm, hp, hk, hv⟩ | ⟨hv, hx⟩
  · rcases h' with ⟨m', hm', hp', hk', hv'⟩ | ⟨hv', hx'⟩
    · rw [hk, pz_eqI (hc m (by omega)) (hc m' (by omega))] at hk'
      rcases Nat.lt_trichotomy m m' with h1 | h1 | h1
      · have := pr_cnt_ge h1 hp; omega
      · rw [hv, hv', h1]
      · have := pr_cnt_ge h1 hp'; omega
    · exact (key m hm hp hk hx').elim
  · rcases h' with ⟨m', hm', hp', hk', hv'⟩ | ⟨hv', hx'⟩
    · exact (key m' hm' hp' hk' hx).elim
    · rw [hv, hv']
theorem pr_kth_c {P Q : Nat → Bool} {n : Nat} {k v : Int32} (h : pr_kth P n k v) (hq : ∀ i, i < n → P i = Q i) : pr_kth Q n k v := by
  have hc : ∀ m, m ≤ n → pz_cnt P m = pz_cnt Q m := fun m hm => pz_cnt_congr (fun i hi => hq i (by omega))
  rcases h with ⟨m, hm, hp, hk, hv⟩ | ⟨hv, hx⟩
  · exact Or.inl ⟨m, hm, by rw [← hq m hm]; exact hp, by rw [← hc m (by omega)]; exact hk, hv⟩
  · refine Or.inr ⟨hv, ?_⟩
    rw [← hc n (Nat.le_refl _)]
    exact hx
theorem pr_kth_n {P : Nat → Bool} {m n : Nat} {k v : Int32} (h : pr_kth P m k v) (hm : m ≤ n) (hf : ∀ i, m ≤ i → i < n → P i = false) : pr_kth P n k v := by
  rcases h with ⟨i, hi, hp, hk, hv⟩ | ⟨hv, hx⟩
  · exact Or.inl ⟨i, by omega, hp, hk, hv⟩
  · refine Or.inr ⟨hv, ?_⟩
    rw [pr_cnt_tail hm hf]
    exact hx
/-- what a loop knows on its way: so many are left -/
def pr_left (P : Nat → Bool) (k : Int32) (m : Nat) (left : Int32) : Prop := (k < 0 ∧ left = k) ∨ ∃ j l, j < 2147483648 ∧ k = nI j ∧ left = nI l ∧ l + pz_cnt P m = j
theorem pr_left_0 {P : Nat → Bool} {k : Int32} : pr_left P k 0 k := by
  by_cases h : k < 0
  · exact Or.inl ⟨h, rfl⟩
  · obtain ⟨j, hj, hk⟩ := nI_of h
    exact Or.inr ⟨j, j, hj, hk, hk, rfl⟩
theorem pr_left_f {P : Nat → Bool} {k left : Int32} {m : Nat} (h : pr_left P k m left) (hp : P m = false) : pr_left P k (m + 1) left := by
  rcases h with h | ⟨j, l, h1, h2, h3, h4⟩
  · exact Or.inl h
  · exact Or.inr ⟨j, l, h1, h2, h3, by rw [pr_cnt_f hp]; exact h4⟩
theorem pr_left_t {P : Nat → Bool} {k left : Int32} {m : Nat} (h : pr_left P k m left) (hk : ¬ k < 0) (hp : P m = true) (h0 : left ≠ 0) : pr_left P k (m + 1) (left + (-1)) := by
  rcases h with h | ⟨j, l, h1, h2, h3, h4⟩
  · exact absurd h.1 hk
  · have hl : l ≠ 0 := by
      intro h
      subst h
      exact h0 h3
    refine Or.inr ⟨j, l - 1, h1, h2, ?_, ?_⟩
    · rw [h3, pz_addm1 (by omega)]
    · rw [pr_cnt_s hp]; omega
theorem pr_left_e {P : Nat → Bool} {k left : Int32} {m n : Nat} (h : pr_left P k m left) (hk : ¬ k < 0) (hm : m < n) (hp : P m = true) (h0 : left = 0) : pr_kth P n k (nI m) := by
  rcases h with h | ⟨j, l, h1, h2, h3, h4⟩
  · exact absurd h.1 hk
  · have hl : l = 0 := by
      rw [h3] at h0
      have := pz_c0e (n := l) (by omega)
      rw [this] at h0
      exact h0
    refine Or.inl ⟨m, hm, hp, ?_, rfl⟩
    rw [h2]
    congr 1
    omega
theorem pr_left_x {P : Nat → Bool} {k left : Int32} {n : Nat} (h : pr_left P k n left) : pr_kth P n k (-1) := by
  rcases h with h | ⟨j, l, h1, h2, h3, h4⟩
  · exact Or.inr ⟨rfl, Or.inl h.1⟩
  · exact Or.inr ⟨rfl, Or.inr ⟨j, h1, h2, by omega⟩⟩
theorem pr_left_n {P : Nat → Bool} {k left : Int32} {n : Nat} (h : pr_left P k n left) : (left < 0) ↔ (k < 0) := by
  rcases h with ⟨h1, h2⟩ | ⟨j, l, h1, h2, h3, h4⟩
  · rw [h2]
  · rw [h3, h2, pz_n0 (by omega), pz_n0 h1]
theorem pr_c_memberAt {N : Nat} {x k : Int32} (hN : 2000 ≤ N) : pz_T (zf_X6_memberAt N x k) (pr_kth (bt x) 32 k) := by
  unfold zf_X6_memberAt
  rw [pz_T_let, pz_T_let]
  refine pz_for2r (e := 32) (fun m left => pr_left (bt x) k m left) ?_ N 0 k (by omega) pr_left_0 (by omega)
  intro rc m left hm hl hrc
  simp only [pz_T_ite, pz_T_gd, pz_T_jn1, pz_T_jn2, pz_T_some, pz_T_let, pz_T_b1, pz_T_b2]
  simp (disch := omega) only [pz_c32a, nI_1]
  refine ⟨fun hge => ?_, fun hlt => ⟨fun hn => ?_, fun hn => ?_⟩⟩
  · have : m = 32 := by omega
    subst this
    exact pr_left_x hl
  · exact Or.inr ⟨rfl, Or.inl ((pr_left_n hl).mp hn)⟩
  · have hk : ¬ k < 0 := fun h => hn ((pr_left_n hl).mpr h)
    rw [pz_bt_u (by omega)]
    refine ⟨fun hb => hrc (by omega) _ (pr_left_f hl hb), fun hb => ⟨fun h0 => ?_, fun h0 => hrc (by omega) _ (pr_left_t hl hk (by simpa using hb) h0)⟩⟩
    exact pr_left_e hl hk (by omega) (by simpa using hb) h0
def pr_op (pc : Nat → Nat) (S : zz_St) (n : Nat) : Bool := decide (0 < pc n) && decide (zz_ga S 22 n = 0)
theorem pr_op_t {pc : Nat → Nat} {S : zz_St} {n : Nat} : pr_op pc S n = true ↔ 0 < pc n ∧ zz_ga S 22 n = 0 := by
  unfold pr_op
  rw [Bool.and_eq_true, decide_eq_true_iff, decide_eq_true_iff]
theorem pr_c_isOpen {N z : Nat} {S : zz_St} {n : Nat} {pc : Nat → Nat} (h : zz_ga S 21 n = nI (pc n)) (h5 : pc n ≤ 5) : zf_X2_isOpen N z S n = some (pz_b (pr_op pc S n)) := by
  apply pz_eq_of
  unfold zf_X2_isOpen
  simp only [pz_T_ite, pz_T_gd, pz_T_jn1, pz_T_jn2, pz_T_some, pz_T_let, pz_T_b1, pz_T_b2]
  simp (disch := omega) only [h, pz_c0c, pz_bl0, pz_bl1, true_and]
  unfold pr_op
  refine ⟨fun h => ?_, fun h => ⟨fun h' => ?_, fun h' => ?_⟩⟩
  · rw [decide_eq_false (by omega)]; rfl
  · rw [decide_eq_true (show 0 < pc n by omega), decide_eq_true h']; rfl
  · rw [decide_eq_true (show 0 < pc n by omega), decide_eq_false h']; rfl
theorem pr_m_isOpen {N : Nat} {S M : zz_St} {n : Nat} {pc : Nat → Nat} (hn : n < 12) (h : zz_ga M 1 n = nI (pc n)) (h5 : pc n ≤ 5) (h10 : zz_ga M 10 n = zz_ga S 22 n) : zf_X7_isOpen N M (nI n) = some (pz_b (pr_op pc S n)) := by
  apply pz_eq_of
  unfold zf_X7_isOpen
  simp only [pz_T_ite, pz_T_gd, pz_T_jn1, pz_T_jn2, pz_T_some, pz_T_let, pz_T_b1, pz_T_b2]
  simp (disch := omega) only [pz_in, nI_clampI, h, h10, pz_c0c, pz_bl0, pz_bl1, true_and]
  unfold pr_op
  refine ⟨hn, fun h => ?_, fun h => ⟨hn, fun h' => ?_, fun h' => ?_⟩⟩
  · rw [decide_eq_false (by omega)]; rfl
  · rw [decide_eq_true (show 0 < pc n by omega), decide_eq_true h']; rfl
  · rw [decide_eq_true (show 0 < pc n by omega), decide_eq_false h']; rfl
theorem pr_c_openNets {N z nn : Nat} {S : zz_St} {pc : Nat → Nat} (hN : 2000 ≤ N) (hnn : nn ≤ 12) (h0 : zz_gi S 0 = nI nn) (h21 : ∀ n, n < 12 → pc n ≤ 5 ∧ zz_ga S 21 n = nI (pc n)) :
    pz_T (zf_X6_openNets N z S) (fun x => ∀ i, i < 32 → bt x i = (decide (i < nn) && pr_op pc S i)) := by
  unfold zf_X6_openNets
  rw [pz_T_let, pz_T_let]
  refine pz_for2r (e := nn) (fun m v => ∀ i, i < 32 → bt v i = (decide (i < m) && pr_op pc S i)) ?_ N 0 _ (by omega) (fun i hi => by rw [b_0]; simp) (by omega)
  intro rc m v hm hv hrc
  simp only [pz_T_ite, pz_T_gd, pz_T_jn1, pz_T_jn2, pz_T_some, pz_T_let, pz_T_b1, pz_T_b2]
  simp (disch := omega) only [h0, pz_leI, pz_in, nI_clampI, nI_1]
  refine ⟨fun hge => ?_, fun hlt => ⟨by omega, ?_⟩⟩
  · have : m = nn := by omega
    subst this
    exact hv
  · obtain ⟨a1, a2⟩ := h21 m (by omega)
    rw [pz_T_eq (pr_c_isOpen a2 a1), pz_b_0]
    refine ⟨fun hf => hrc (by omega) _ (fun i hi => ?_), fun hf => hrc (by omega) _ (fun i hi => ?_)⟩
    · rw [hv i hi]
      by_cases e1 : i = m
      · subst e1; rw [hf]; simp
      · have : (i < m + 1) = (i < m) := by apply propext; omega
        simp only [this]
    · rw [pz_bt_or (by omega) hi, hv i hi]
      by_cases e1 : i = m
      · subst e1
        have hf' : pr_op pc S i = true := by simpa using hf
        rw [hf']; simp
      · have : (i < m + 1) = (i < m) := by apply propext; omega
        simp [this, e1]
theorem pr_m_openCount {N nn : Nat} {S M : zz_St} {pc : Nat → Nat} (hN : 2000 ≤ N) (hnn : nn ≤ 12) (h4 : zz_gi M 4 = nI nn) (h1 : ∀ n, n < 12 → pc n ≤ 5 ∧ zz_ga M 1 n = nI (pc n) ∧ zz_ga M 10 n = zz_ga S 22 n) :
    zf_X7_openCount N M = some (nI (pz_cnt (pr_op pc S) nn)) := by
  apply pz_eq_of
  unfold zf_X7_openCount
  rw [pz_T_let, pz_T_let]
  refine pz_for2r (e := nn) (fun m v => v = nI (pz_cnt (pr_op pc S) m)) ?_ N 0 _ (by omega) rfl (by omega)
  rintro rc m v hm rfl hrc
  simp only [pz_T_ite, pz_T_gd, pz_T_jn1, pz_T_jn2, pz_T_some, pz_T_let, pz_T_b1, pz_T_b2]
  simp (disch := omega) only [h4, pz_leI, nI_1]
  refine ⟨fun hge => ?_, fun hlt => ?_⟩
  · have : m = nn := by omega
    subst this
    rfl
  · obtain ⟨a1, a2, a3⟩ := h1 m (by omega)
    rw [pz_T_eq (pr_m_isOpen (by omega) a2 a1 a3), pz_b_0]
    refine ⟨fun hf => hrc (by omega) _ ?_, fun hf => hrc (by omega) _ ?_⟩
    · rw [pr_cnt_f hf]
      exact nI_add _ 0
    · rw [pr_cnt_s (by simpa using hf)]
      try exact nI_1 _
theorem pr_bc0 : ∀ a, a < 64 → ∀ b, b < 64 → zf_J6_bitCount_0f7a4 0 (nI (64 * a + b)) = some (nI (pz_cnt (fun i => (64 * a + b).testBit i) 12)) := by decide +kernel
theorem pr_bt_nI {v i : Nat} (hi : i < 32) : bt (nI v) i = v.testBit i := by
  unfold bt nI
  show (BitVec.ofNat 32 v).getLsbD i = v.testBit i
  rw [BitVec.getLsbD_ofNat]
  simp [hi]
theorem pr_bitCount {N : Nat} {x : Int32} (h : ∀ i, 12 ≤ i → i < 32 → bt x i = false) : zf_J6_bitCount_0f7a4 N x = some (nI (pz_cnt (bt x) 12)) := by
  obtain ⟨v, hv, rfl⟩ := wb_of32 x
  have hv2 : v < 2 ^ 12 := by
    apply Nat.lt_pow_two_of_testBit
    intro i hi
    by_cases h32 : i < 32
    · rw [← pr_bt_nI h32]
      exact h i hi h32
    · exact Nat.testBit_lt_two_pow (Nat.lt_of_lt_of_le hv (Nat.pow_le_pow_right (by decide) (by omega)))
  have h1 := pr_bc0 (v / 64) (by omega) (v % 64) (by omega)
  have h2 : 64 * (v / 64) + v % 64 = v := Nat.div_add_mod v 64
  rw [h2] at h1
  have h3 : zf_J6_bitCount_0f7a4 N (nI v) = zf_J6_bitCount_0f7a4 0 (nI v) := rfl
  rw [h3, h1, pz_cnt_congr (Q := fun i => v.testBit i) (fun i hi => pr_bt_nI (by omega))]

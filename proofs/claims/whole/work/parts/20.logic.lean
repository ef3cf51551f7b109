/-! The pure side: total correctness of the Option-valued programs -/
def pz_T {α : Type} (x : Option α) (P : α → Prop) : Prop := ∃ r, x = some r ∧ P r
theorem pz_T_some {α : Type} {r : α} {P : α → Prop} : pz_T (some r) P ↔ P r := ⟨fun ⟨_, h, p⟩ => by cases h; exact p, fun h => ⟨r, rfl, h⟩⟩
theorem pz_T_gd {α : Type} {b : Bool} {k : Option α} {P : α → Prop} : pz_T (zz_gd b k) P ↔ (b = true ∧ pz_T k P) := by
  unfold zz_gd
  cases b <;> simp [pz_T]
theorem pz_T_let {α β : Type} {x : α} {k : α → Option β} {P : β → Prop} : pz_T (zz_let x k) P ↔ pz_T (k x) P := Iff.rfl
theorem pz_T_jn1 {A0 α : Type} {J : A0 → Option α} {b : (A0 → Option α) → Option α} {P : α → Prop} : pz_T (zz_jn1 J b) P ↔ pz_T (b J) P := Iff.rfl
theorem pz_T_jn2 {A0 A1 α : Type} {J : A0 → A1 → Option α} {b : (A0 → A1 → Option α) → Option α} {P : α → Prop} : pz_T (zz_jn2 J b) P ↔ pz_T (b J) P := Iff.rfl
theorem pz_T_b1 {α β : Type} {x : Option α} {k : α → Option β} {P : β → Prop} : pz_T (zz_b1 x k) P ↔ pz_T x (fun v => pz_T (k v) P) := by
  cases x <;> simp [zz_b1, pz_T]
theorem pz_T_b2 {α σ β : Type} {x : Option (α × σ)} {k : α → σ → Option β} {P : β → Prop} : pz_T (zz_b2 x k) P ↔ pz_T x (fun v => pz_T (k v.1 v.2) P) := by
  cases x <;> simp [zz_b2, pz_T]
theorem pz_T_ite {α : Type} {c : Prop} {inst : Decidable c} {a b : Option α} {P : α → Prop} : pz_T (@ite (Option α) c inst a b) P ↔ ((c → pz_T a P) ∧ (¬ c → pz_T b P)) := by
  by_cases h : c <;> simp [h]
theorem pz_T_mono {α : Type} {x : Option α} {P Q : α → Prop} (h : pz_T x P) (hpq : ∀ r, P r → Q r) : pz_T x Q := by
  obtain ⟨r, h1, h2⟩ := h
  exact ⟨r, h1, hpq r h2⟩
theorem pz_T_eq {α : Type} {x : Option α} {r : α} {P : α → Prop} (h : x = some r) : pz_T x P ↔ P r := by
  subst h
  exact pz_T_some
theorem pz_eq_of {α : Type} {x : Option α} {r : α} (h : pz_T x (fun v => v = r)) : x = some r := by
  obtain ⟨v, h1, h2⟩ := h
  rw [h1, h2]
theorem pz_fix1 {A0 α : Type} {F : (A0 → Option α) → A0 → Option α} {P : α → Prop} (I : A0 → Prop) (m : A0 → Nat)
    (hb : ∀ rc x, I x → (∀ y, I y → m y < m x → pz_T (rc y) P) → pz_T (F rc x) P) : ∀ k x, I x → m x < k → pz_T (zz_fix1 F k x) P := by
  intro k
  induction k with
  | zero => intro x _ h; omega
  | succ k ih => intro x hi hm; exact hb _ x hi (fun y hy hlt => ih y hy (by omega))
theorem pz_fix2 {A0 A1 α : Type} {F : (A0 → A1 → Option α) → A0 → A1 → Option α} {P : α → Prop} (I : A0 → A1 → Prop) (m : A0 → A1 → Nat)
    (hb : ∀ rc x0 x1, I x0 x1 → (∀ y0 y1, I y0 y1 → m y0 y1 < m x0 x1 → pz_T (rc y0 y1) P) → pz_T (F rc x0 x1) P) : ∀ k x0 x1, I x0 x1 → m x0 x1 < k → pz_T (zz_fix2 F k x0 x1) P := by
  intro k
  induction k with
  | zero => intro x0 x1 _ h; omega
  | succ k ih => intro x0 x1 hi hm; exact hb _ x0 x1 hi (fun y0 y1 hy hlt => ih y0 y1 hy (by omega))
theorem pz_fix3 {A0 A1 A2 α : Type} {F : (A0 → A1 → A2 → Option α) → A0 → A1 → A2 → Option α} {P : α → Prop} (I : A0 → A1 → A2 → Prop) (m : A0 → A1 → A2 → Nat)
    (hb : ∀ rc x0 x1 x2, I x0 x1 x2 → (∀ y0 y1 y2, I y0 y1 y2 → m y0 y1 y2 < m x0 x1 x2 → pz_T (rc y0 y1 y2) P) → pz_T (F rc x0 x1 x2) P) : ∀ k x0 x1 x2, I x0 x1 x2 → m x0 x1 x2 < k → pz_T (zz_fix3 F k x0 x1 x2) P := by
  intro k
  induction k with
  | zero => intro x0 x1 x2 _ h; omega
  | succ k ih => intro x0 x1 x2 hi hm; exact hb _ x0 x1 x2 hi (fun y0 y1 y2 hy hlt => ih y0 y1 y2 hy (by omega))
theorem pz_fix4 {A0 A1 A2 A3 α : Type} {F : (A0 → A1 → A2 → A3 → Option α) → A0 → A1 → A2 → A3 → Option α} {P : α → Prop} (I : A0 → A1 → A2 → A3 → Prop) (m : A0 → A1 → A2 → A3 → Nat)
    (hb : ∀ rc x0 x1 x2 x3, I x0 x1 x2 x3 → (∀ y0 y1 y2 y3, I y0 y1 y2 y3 → m y0 y1 y2 y3 < m x0 x1 x2 x3 → pz_T (rc y0 y1 y2 y3) P) → pz_T (F rc x0 x1 x2 x3) P) : ∀ k x0 x1 x2 x3, I x0 x1 x2 x3 → m x0 x1 x2 x3 < k → pz_T (zz_fix4 F k x0 x1 x2 x3) P := by
  intro k
  induction k with
  | zero => intro x0 x1 x2 x3 _ h; omega
  | succ k ih => intro x0 x1 x2 x3 hi hm; exact hb _ x0 x1 x2 x3 hi (fun y0 y1 y2 y3 hy hlt => ih y0 y1 y2 y3 hy (by omega))
/-- counting loops: the index is the first, the second -/
theorem pz_for1 {α : Type} {F : (Int32 → Option α) → Int32 → Option α} {P : α → Prop} (e : Nat) (I : Nat → Prop)
    (hb : ∀ rc n, n ≤ e → I n → (n < e → I (n + 1) → pz_T (rc (nI (n + 1))) P) → pz_T (F rc (nI n)) P) :
    ∀ k n, n ≤ e → I n → e - n < k → pz_T (zz_fix1 F k (nI n)) P := by
  intro k
  induction k with
  | zero => intro n _ _ h; omega
  | succ k ih => intro n hn hi hm; exact hb _ n hn hi (fun hlt hy => ih (n + 1) (by omega) hy (by omega))
theorem pz_for2 {A1 α : Type} {F : (Int32 → A1 → Option α) → Int32 → A1 → Option α} {P : α → Prop} (e : Nat) (I : Nat → A1 → Prop)
    (hb : ∀ rc n s, n ≤ e → I n s → (n < e → ∀ s', I (n + 1) s' → pz_T (rc (nI (n + 1)) s') P) → pz_T (F rc (nI n) s) P) :
    ∀ k n s, n ≤ e → I n s → e - n < k → pz_T (zz_fix2 F k (nI n) s) P := by
  intro k
  induction k with
  | zero => intro n s _ _ h; omega
  | succ k ih => intro n s hn hi hm; exact hb _ n s hn hi (fun hlt s' hy => ih (n + 1) s' (by omega) hy (by omega))
theorem pz_for2r {A0 α : Type} {F : (A0 → Int32 → Option α) → A0 → Int32 → Option α} {P : α → Prop} (e : Nat) (I : Nat → A0 → Prop)
    (hb : ∀ rc n s, n ≤ e → I n s → (n < e → ∀ s', I (n + 1) s' → pz_T (rc s' (nI (n + 1))) P) → pz_T (F rc s (nI n)) P) :
    ∀ k n s, n ≤ e → I n s → e - n < k → pz_T (zz_fix2 F k s (nI n)) P := by
  intro k
  induction k with
  | zero => intro n s _ _ h; omega
  | succ k ih => intro n s hn hi hm; exact hb _ n s hn hi (fun hlt s' hy => ih (n + 1) s' (by omega) hy (by omega))
theorem pz_for3 {A0 A2 α : Type} {F : (A0 → Int32 → A2 → Option α) → A0 → Int32 → A2 → Option α} {P : α → Prop} (e : Nat) (I : Nat → A0 → A2 → Prop)
    (hb : ∀ rc n a s, n ≤ e → I n a s → (n < e → ∀ a' s', I (n + 1) a' s' → pz_T (rc a' (nI (n + 1)) s') P) → pz_T (F rc a (nI n) s) P) :
    ∀ k n a s, n ≤ e → I n a s → e - n < k → pz_T (zz_fix3 F k a (nI n) s) P := by
  intro k
  induction k with
  | zero => intro n a s _ _ h; omega
  | succ k ih => intro n a s hn hi hm; exact hb _ n a s hn hi (fun hlt a' s' hy => ih (n + 1) a' s' (by omega) hy (by omega))
/-- states -/
theorem pz_up_s {α : Type} {f : Nat → α} {k : Nat} {v : α} : zz_up f k v k = v := by simp [zz_up]
theorem pz_up_n {α : Type} {f : Nat → α} {k j : Nat} {v : α} (h : j ≠ k) : zz_up f k v j = f j := by simp [zz_up, h]
theorem pz_up_up {α : Type} {f : Nat → α} {k : Nat} {v w : α} : zz_up (zz_up f k v) k w = zz_up f k w := by
  funext j
  unfold zz_up
  split <;> rfl
theorem pz_up_id {α : Type} {f : Nat → α} {k : Nat} : zz_up f k (f k) = f := by
  funext j
  unfold zz_up
  split <;> simp_all
theorem pz_gi_si {S : zz_St} {k : Nat} {v : Int32} : zz_gi (zz_si S k v) k = v := pz_up_s
theorem pz_gi_si_n {S : zz_St} {k j : Nat} {v : Int32} (h : j ≠ k) : zz_gi (zz_si S k v) j = zz_gi S j := pz_up_n h
theorem pz_gi_sl {S : zz_St} {k j : Nat} {v : Int64} : zz_gi (zz_sl S k v) j = zz_gi S j := rfl
theorem pz_gi_sa {S : zz_St} {k j : Nat} {v : Nat → Int32} : zz_gi (zz_sa S k v) j = zz_gi S j := rfl
theorem pz_gi_sA {S : zz_St} {k j : Nat} {v : Nat → Int64} : zz_gi (zz_sA S k v) j = zz_gi S j := rfl
theorem pz_gi_sp {S : zz_St} {k j : Nat} {v : Nat → Int32} : zz_gi (zz_sp S k v) j = zz_gi S j := rfl
theorem pz_gl_si {S : zz_St} {k j : Nat} {v : Int32} : zz_gl (zz_si S k v) j = zz_gl S j := rfl
theorem pz_gl_sl {S : zz_St} {k : Nat} {v : Int64} : zz_gl (zz_sl S k v) k = v := pz_up_s
theorem pz_gl_sl_n {S : zz_St} {k j : Nat} {v : Int64} (h : j ≠ k) : zz_gl (zz_sl S k v) j = zz_gl S j := pz_up_n h
theorem pz_gl_sa {S : zz_St} {k j : Nat} {v : Nat → Int32} : zz_gl (zz_sa S k v) j = zz_gl S j := rfl
theorem pz_gl_sA {S : zz_St} {k j : Nat} {v : Nat → Int64} : zz_gl (zz_sA S k v) j = zz_gl S j := rfl
theorem pz_gl_sp {S : zz_St} {k j : Nat} {v : Nat → Int32} : zz_gl (zz_sp S k v) j = zz_gl S j := rfl
theorem pz_ga_si {S : zz_St} {k j : Nat} {v : Int32} : zz_ga (zz_si S k v) j = zz_ga S j := rfl
theorem pz_ga_sl {S : zz_St} {k j : Nat} {v : Int64} : zz_ga (zz_sl S k v) j = zz_ga S j := rfl
theorem pz_ga_sa {S : zz_St} {k : Nat} {v : Nat → Int32} : zz_ga (zz_sa S k v) k = v := pz_up_s
theorem pz_ga_sa_n {S : zz_St} {k j : Nat} {v : Nat → Int32} (h : j ≠ k) : zz_ga (zz_sa S k v) j = zz_ga S j := pz_up_n h
theorem pz_ga_sA {S : zz_St} {k j : Nat} {v : Nat → Int64} : zz_ga (zz_sA S k v) j = zz_ga S j := rfl
theorem pz_ga_sp {S : zz_St} {k j : Nat} {v : Nat → Int32} : zz_ga (zz_sp S k v) j = zz_ga S j := rfl
theorem pz_gA_si {S : zz_St} {k j : Nat} {v : Int32} : zz_gA (zz_si S k v) j = zz_gA S j := rfl
theorem pz_gA_sl {S : zz_St} {k j : Nat} {v : Int64} : zz_gA (zz_sl S k v) j = zz_gA S j := rfl
theorem pz_gA_sa {S : zz_St} {k j : Nat} {v : Nat → Int32} : zz_gA (zz_sa S k v) j = zz_gA S j := rfl
theorem pz_gA_sA {S : zz_St} {k : Nat} {v : Nat → Int64} : zz_gA (zz_sA S k v) k = v := pz_up_s
theorem pz_gA_sA_n {S : zz_St} {k j : Nat} {v : Nat → Int64} (h : j ≠ k) : zz_gA (zz_sA S k v) j = zz_gA S j := pz_up_n h
theorem pz_gA_sp {S : zz_St} {k j : Nat} {v : Nat → Int32} : zz_gA (zz_sp S k v) j = zz_gA S j := rfl
theorem pz_gp_si {S : zz_St} {k j : Nat} {v : Int32} : zz_gp (zz_si S k v) j = zz_gp S j := rfl
theorem pz_gp_sl {S : zz_St} {k j : Nat} {v : Int64} : zz_gp (zz_sl S k v) j = zz_gp S j := rfl
theorem pz_gp_sa {S : zz_St} {k j : Nat} {v : Nat → Int32} : zz_gp (zz_sa S k v) j = zz_gp S j := rfl
theorem pz_gp_sA {S : zz_St} {k j : Nat} {v : Nat → Int64} : zz_gp (zz_sA S k v) j = zz_gp S j := rfl
theorem pz_gp_sp {S : zz_St} {k : Nat} {v : Nat → Int32} : zz_gp (zz_sp S k v) k = v := pz_up_s
theorem pz_gp_sp_n {S : zz_St} {k j : Nat} {v : Nat → Int32} (h : j ≠ k) : zz_gp (zz_sp S k v) j = zz_gp S j := pz_up_n h
theorem pz_sAA {S : zz_St} {k : Nat} {v w : Nat → Int64} : zz_sA (zz_sA S k v) k w = zz_sA S k w := by
  unfold zz_sA
  simp [pz_up_up]
theorem pz_saa {S : zz_St} {k : Nat} {v w : Nat → Int32} : zz_sa (zz_sa S k v) k w = zz_sa S k w := by
  unfold zz_sa
  simp [pz_up_up]
theorem pz_sA_id {S : zz_St} {k : Nat} : zz_sA S k (zz_gA S k) = S := by
  unfold zz_sA zz_gA
  simp [pz_up_id]
theorem pz_sa_id {S : zz_St} {k : Nat} : zz_sa S k (zz_ga S k) = S := by
  unfold zz_sa zz_ga
  simp [pz_up_id]
/-- numbers -/
theorem nI_clampI {n : Nat} (h : n < 2147483648) : (nI n).toNatClampNeg = n := nI_clamp h
theorem pz_leI {a b : Nat} (ha : a < 2147483648) (hb : b < 2147483648) : (nI a ≤ nI b) = (a ≤ b) := propext (nI_leI ha hb)
theorem pz_ltI {a b : Nat} (ha : a < 2147483648) (hb : b < 2147483648) : (nI a < nI b) = (a < b) := propext (nI_ltI ha hb)
theorem pz_eqI {a b : Nat} (ha : a < 2147483648) (hb : b < 2147483648) : (nI a = nI b) = (a = b) := propext (nI_eq ha hb)
theorem pz_nm1 {a : Nat} (ha : a < 2147483648) : (nI a = (-1 : Int32)) = False := by
  apply eq_false
  intro h
  have h1 := congrArg Int32.toInt h
  rw [nI_toInt ha] at h1
  have h2 : (-1 : Int32).toInt = -1 := by decide
  omega
theorem pz_m1n {a : Nat} (ha : a < 2147483648) : ((-1 : Int32) = nI a) = False := by
  rw [@eq_comm _ (-1 : Int32) (nI a)]
  exact pz_nm1 ha
theorem pz_in {n N : Nat} (h : n < 2147483648) : (zz_in (nI n) N = true) = (n < N) := by
  unfold zz_in
  rw [nI_clampI h]
  simp [nI_pos h]
theorem pz_n0 {n : Nat} (h : n < 2147483648) : (nI n < 0) = False := eq_false (nI_pos h)
theorem pz_add1r (n : Nat) : (1 : Int32) + nI n = nI (n + 1) := by
  rw [show ((1 : Int32)) = nI 1 from rfl, nI_add, Nat.add_comm]
theorem pz_nar0 : vp_nar .boolean 0 = 0 := by decide
theorem pz_nar1 : vp_nar .boolean 1 = 1 := by decide
theorem pz_zcl : Int32.toNatClampNeg 0 = 0 := by decide
theorem pz_bl0 : zz_bl 0 = true := by decide
theorem pz_bl1 : zz_bl 1 = true := by decide
theorem pz_q2 : (!((2 : Int32) == 0)) = true := by decide
theorem pz_q4 : (!((4 : Int32) == 0)) = true := by decide
theorem pz_qn {n : Nat} (h0 : 0 < n) (h : n < 2147483648) : (!(nI n == 0)) = true := by
  simp [nI_ne0 h0 h]
theorem pz_sub1 {n : Nat} (h : 1 ≤ n) : nI n - 1 = nI (n - 1) := by
  have := nI_pred (n - 1)
  rwa [Nat.sub_add_cancel h] at this
theorem pz_addm1 {n : Nat} (h : 1 ≤ n) : nI n + (-1) = nI (n - 1) := by
  have := pk_m1 (n - 1)
  rwa [Nat.sub_add_cancel h] at this
theorem pz_5m (n : Nat) : (5 : Int32) * nI n = nI (5 * n) := pk_mul 5 n
theorem pz_2m (n : Nat) : (2 : Int32) * nI n = nI (2 * n) := pk_mul 2 n
theorem pz_1024m (n : Nat) : (1024 : Int32) * nI n = nI (1024 * n) := pk_mul 1024 n
theorem pz_5s {n : Nat} (h : n ≤ 5) : (5 : Int32) - nI n = nI (5 - n) := pk_sub (a := 5) h
theorem pz_d2 {n : Nat} (h : n < 2147483648) : nI n / 2 = nI (n / 2) := pk_div (d := 2) h (by decide) (by decide)
theorem pz_d4 {n : Nat} (h : n < 2147483648) : nI n / 4 = nI (n / 4) := pk_div (d := 4) h (by decide) (by decide)
theorem pz_r2 {n : Nat} (h : n < 2147483648) : nI n - nI n / 2 * 2 = nI (n % 2) := pk_rem (d := 2) h (by decide) (by decide)
theorem pz_c0a {n : Nat} (h : n < 2147483648) : (((0 : Int32)) ≤ nI n) = (0 ≤ n) := propext (nI_leI (a := 0) (by decide) h)
theorem pz_c0b {n : Nat} (h : n < 2147483648) : (((0 : Int32)) < nI n) = (0 < n) := propext (nI_ltI (a := 0) (by decide) h)
theorem pz_c0c {n : Nat} (h : n < 2147483648) : (nI n ≤ ((0 : Int32))) = (n ≤ 0) := propext (nI_leI (b := 0) h (by decide))
theorem pz_c0d {n : Nat} (h : n < 2147483648) : (nI n < ((0 : Int32))) = (n < 0) := propext (nI_ltI (b := 0) h (by decide))
theorem pz_c0e {n : Nat} (h : n < 2147483648) : (nI n = ((0 : Int32))) = (n = 0) := propext (nI_eq (b := 0) h (by decide))
theorem pz_c1a {n : Nat} (h : n < 2147483648) : (((1 : Int32)) ≤ nI n) = (1 ≤ n) := propext (nI_leI (a := 1) (by decide) h)
theorem pz_c1b {n : Nat} (h : n < 2147483648) : (((1 : Int32)) < nI n) = (1 < n) := propext (nI_ltI (a := 1) (by decide) h)
theorem pz_c1c {n : Nat} (h : n < 2147483648) : (nI n ≤ ((1 : Int32))) = (n ≤ 1) := propext (nI_leI (b := 1) h (by decide))
theorem pz_c1d {n : Nat} (h : n < 2147483648) : (nI n < ((1 : Int32))) = (n < 1) := propext (nI_ltI (b := 1) h (by decide))
theorem pz_c1e {n : Nat} (h : n < 2147483648) : (nI n = ((1 : Int32))) = (n = 1) := propext (nI_eq (b := 1) h (by decide))
theorem pz_c2a {n : Nat} (h : n < 2147483648) : (((2 : Int32)) ≤ nI n) = (2 ≤ n) := propext (nI_leI (a := 2) (by decide) h)
theorem pz_c2b {n : Nat} (h : n < 2147483648) : (((2 : Int32)) < nI n) = (2 < n) := propext (nI_ltI (a := 2) (by decide) h)
theorem pz_c2c {n : Nat} (h : n < 2147483648) : (nI n ≤ ((2 : Int32))) = (n ≤ 2) := propext (nI_leI (b := 2) h (by decide))
theorem pz_c2d {n : Nat} (h : n < 2147483648) : (nI n < ((2 : Int32))) = (n < 2) := propext (nI_ltI (b := 2) h (by decide))
theorem pz_c2e {n : Nat} (h : n < 2147483648) : (nI n = ((2 : Int32))) = (n = 2) := propext (nI_eq (b := 2) h (by decide))
theorem pz_c3a {n : Nat} (h : n < 2147483648) : (((3 : Int32)) ≤ nI n) = (3 ≤ n) := propext (nI_leI (a := 3) (by decide) h)
theorem pz_c3b {n : Nat} (h : n < 2147483648) : (((3 : Int32)) < nI n) = (3 < n) := propext (nI_ltI (a := 3) (by decide) h)
theorem pz_c3c {n : Nat} (h : n < 2147483648) : (nI n ≤ ((3 : Int32))) = (n ≤ 3) := propext (nI_leI (b := 3) h (by decide))
theorem pz_c3d {n : Nat} (h : n < 2147483648) : (nI n < ((3 : Int32))) = (n < 3) := propext (nI_ltI (b := 3) h (by decide))
theorem pz_c3e {n : Nat} (h : n < 2147483648) : (nI n = ((3 : Int32))) = (n = 3) := propext (nI_eq (b := 3) h (by decide))
theorem pz_c4a {n : Nat} (h : n < 2147483648) : (((4 : Int32)) ≤ nI n) = (4 ≤ n) := propext (nI_leI (a := 4) (by decide) h)
theorem pz_c4b {n : Nat} (h : n < 2147483648) : (((4 : Int32)) < nI n) = (4 < n) := propext (nI_ltI (a := 4) (by decide) h)
theorem pz_c4c {n : Nat} (h : n < 2147483648) : (nI n ≤ ((4 : Int32))) = (n ≤ 4) := propext (nI_leI (b := 4) h (by decide))
theorem pz_c4d {n : Nat} (h : n < 2147483648) : (nI n < ((4 : Int32))) = (n < 4) := propext (nI_ltI (b := 4) h (by decide))
theorem pz_c4e {n : Nat} (h : n < 2147483648) : (nI n = ((4 : Int32))) = (n = 4) := propext (nI_eq (b := 4) h (by decide))
theorem pz_c5a {n : Nat} (h : n < 2147483648) : (((5 : Int32)) ≤ nI n) = (5 ≤ n) := propext (nI_leI (a := 5) (by decide) h)
theorem pz_c5b {n : Nat} (h : n < 2147483648) : (((5 : Int32)) < nI n) = (5 < n) := propext (nI_ltI (a := 5) (by decide) h)
theorem pz_c5c {n : Nat} (h : n < 2147483648) : (nI n ≤ ((5 : Int32))) = (n ≤ 5) := propext (nI_leI (b := 5) h (by decide))
theorem pz_c5d {n : Nat} (h : n < 2147483648) : (nI n < ((5 : Int32))) = (n < 5) := propext (nI_ltI (b := 5) h (by decide))
theorem pz_c5e {n : Nat} (h : n < 2147483648) : (nI n = ((5 : Int32))) = (n = 5) := propext (nI_eq (b := 5) h (by decide))
theorem pz_c6a {n : Nat} (h : n < 2147483648) : (((6 : Int32)) ≤ nI n) = (6 ≤ n) := propext (nI_leI (a := 6) (by decide) h)
theorem pz_c6b {n : Nat} (h : n < 2147483648) : (((6 : Int32)) < nI n) = (6 < n) := propext (nI_ltI (a := 6) (by decide) h)
theorem pz_c6c {n : Nat} (h : n < 2147483648) : (nI n ≤ ((6 : Int32))) = (n ≤ 6) := propext (nI_leI (b := 6) h (by decide))
theorem pz_c6d {n : Nat} (h : n < 2147483648) : (nI n < ((6 : Int32))) = (n < 6) := propext (nI_ltI (b := 6) h (by decide))
theorem pz_c6e {n : Nat} (h : n < 2147483648) : (nI n = ((6 : Int32))) = (n = 6) := propext (nI_eq (b := 6) h (by decide))
theorem pz_c12a {n : Nat} (h : n < 2147483648) : (((12 : Int32)) ≤ nI n) = (12 ≤ n) := propext (nI_leI (a := 12) (by decide) h)
theorem pz_c12b {n : Nat} (h : n < 2147483648) : (((12 : Int32)) < nI n) = (12 < n) := propext (nI_ltI (a := 12) (by decide) h)
theorem pz_c12c {n : Nat} (h : n < 2147483648) : (nI n ≤ ((12 : Int32))) = (n ≤ 12) := propext (nI_leI (b := 12) h (by decide))
theorem pz_c12d {n : Nat} (h : n < 2147483648) : (nI n < ((12 : Int32))) = (n < 12) := propext (nI_ltI (b := 12) h (by decide))
theorem pz_c12e {n : Nat} (h : n < 2147483648) : (nI n = ((12 : Int32))) = (n = 12) := propext (nI_eq (b := 12) h (by decide))
theorem pz_c16a {n : Nat} (h : n < 2147483648) : (((16 : Int32)) ≤ nI n) = (16 ≤ n) := propext (nI_leI (a := 16) (by decide) h)
theorem pz_c16b {n : Nat} (h : n < 2147483648) : (((16 : Int32)) < nI n) = (16 < n) := propext (nI_ltI (a := 16) (by decide) h)
theorem pz_c16c {n : Nat} (h : n < 2147483648) : (nI n ≤ ((16 : Int32))) = (n ≤ 16) := propext (nI_leI (b := 16) h (by decide))
theorem pz_c16d {n : Nat} (h : n < 2147483648) : (nI n < ((16 : Int32))) = (n < 16) := propext (nI_ltI (b := 16) h (by decide))
theorem pz_c16e {n : Nat} (h : n < 2147483648) : (nI n = ((16 : Int32))) = (n = 16) := propext (nI_eq (b := 16) h (by decide))
theorem pz_c20a {n : Nat} (h : n < 2147483648) : (((20 : Int32)) ≤ nI n) = (20 ≤ n) := propext (nI_leI (a := 20) (by decide) h)
theorem pz_c20b {n : Nat} (h : n < 2147483648) : (((20 : Int32)) < nI n) = (20 < n) := propext (nI_ltI (a := 20) (by decide) h)
theorem pz_c20c {n : Nat} (h : n < 2147483648) : (nI n ≤ ((20 : Int32))) = (n ≤ 20) := propext (nI_leI (b := 20) h (by decide))
theorem pz_c20d {n : Nat} (h : n < 2147483648) : (nI n < ((20 : Int32))) = (n < 20) := propext (nI_ltI (b := 20) h (by decide))
theorem pz_c20e {n : Nat} (h : n < 2147483648) : (nI n = ((20 : Int32))) = (n = 20) := propext (nI_eq (b := 20) h (by decide))
theorem pz_c32a {n : Nat} (h : n < 2147483648) : (((32 : Int32)) ≤ nI n) = (32 ≤ n) := propext (nI_leI (a := 32) (by decide) h)
theorem pz_c32b {n : Nat} (h : n < 2147483648) : (((32 : Int32)) < nI n) = (32 < n) := propext (nI_ltI (a := 32) (by decide) h)
theorem pz_c32c {n : Nat} (h : n < 2147483648) : (nI n ≤ ((32 : Int32))) = (n ≤ 32) := propext (nI_leI (b := 32) h (by decide))
theorem pz_c32d {n : Nat} (h : n < 2147483648) : (nI n < ((32 : Int32))) = (n < 32) := propext (nI_ltI (b := 32) h (by decide))
theorem pz_c32e {n : Nat} (h : n < 2147483648) : (nI n = ((32 : Int32))) = (n = 32) := propext (nI_eq (b := 32) h (by decide))
theorem pz_c50a {n : Nat} (h : n < 2147483648) : (((50 : Int32)) ≤ nI n) = (50 ≤ n) := propext (nI_leI (a := 50) (by decide) h)
theorem pz_c50b {n : Nat} (h : n < 2147483648) : (((50 : Int32)) < nI n) = (50 < n) := propext (nI_ltI (a := 50) (by decide) h)
theorem pz_c50c {n : Nat} (h : n < 2147483648) : (nI n ≤ ((50 : Int32))) = (n ≤ 50) := propext (nI_leI (b := 50) h (by decide))
theorem pz_c50d {n : Nat} (h : n < 2147483648) : (nI n < ((50 : Int32))) = (n < 50) := propext (nI_ltI (b := 50) h (by decide))
theorem pz_c50e {n : Nat} (h : n < 2147483648) : (nI n = ((50 : Int32))) = (n = 50) := propext (nI_eq (b := 50) h (by decide))
theorem pz_c1024a {n : Nat} (h : n < 2147483648) : (((1024 : Int32)) ≤ nI n) = (1024 ≤ n) := propext (nI_leI (a := 1024) (by decide) h)
theorem pz_c1024b {n : Nat} (h : n < 2147483648) : (((1024 : Int32)) < nI n) = (1024 < n) := propext (nI_ltI (a := 1024) (by decide) h)
theorem pz_c1024c {n : Nat} (h : n < 2147483648) : (nI n ≤ ((1024 : Int32))) = (n ≤ 1024) := propext (nI_leI (b := 1024) h (by decide))
theorem pz_c1024d {n : Nat} (h : n < 2147483648) : (nI n < ((1024 : Int32))) = (n < 1024) := propext (nI_ltI (b := 1024) h (by decide))
theorem pz_c1024e {n : Nat} (h : n < 2147483648) : (nI n = ((1024 : Int32))) = (n = 1024) := propext (nI_eq (b := 1024) h (by decide))
/-- longs -/
def pz_lo (x : Option Nat) : Int64 := match x with
  | some v => lN v
  | none => -1
theorem pz_lo_s {v : Nat} : pz_lo (some v) = lN v := rfl
theorem pz_lo_n : pz_lo none = -1 := rfl
theorem pz_lgt (a b : Int64) : (a > b) = (b < a) := rfl
theorem pz_l_lt {a b : Int64} : (lg_cmp a b < 0) = (a < b) := by
  unfold lg_cmp
  apply propext
  rw [Int64.lt_iff_toInt_lt]
  by_cases h : a > b
  · rw [if_pos h]
    rw [pz_lgt, Int64.lt_iff_toInt_lt] at h
    constructor
    · intro h'; exact absurd h' (by decide)
    · intro h'; omega
  · rw [if_neg h]
    rw [pz_lgt, Int64.lt_iff_toInt_lt] at h
    by_cases h2 : a = b
    · rw [if_pos h2]; subst h2
      constructor
      · intro h'; exact absurd h' (by decide)
      · intro h'; omega
    · rw [if_neg h2]
      have h3 : a.toInt ≠ b.toInt := fun q => h2 (Int64.toInt_inj.mp q)
      constructor
      · intro h'; omega
      · intro h'; decide
theorem pz_l_gt {a b : Int64} : (0 < lg_cmp a b) = (b < a) := by
  unfold lg_cmp
  apply propext
  by_cases h : a > b
  · rw [if_pos h]
    exact ⟨fun _ => h, fun _ => by decide⟩
  · rw [if_neg h]
    constructor
    · intro h'
      split at h' <;> exact absurd h' (by decide)
    · intro h'; exact absurd h' h
theorem pz_l_eq {a b : Int64} : (lg_cmp a b = 0) = (a = b) := by
  unfold lg_cmp
  apply propext
  by_cases h : a > b
  · rw [if_pos h]
    rw [pz_lgt, Int64.lt_iff_toInt_lt] at h
    constructor
    · intro h'; exact absurd h' (by decide)
    · intro h'; subst h'; omega
  · rw [if_neg h]
    by_cases h2 : a = b
    · rw [if_pos h2]; simp [h2]
    · rw [if_neg h2]; simp [h2]
theorem pz_l_ge {a b : Int64} : (0 ≤ lg_cmp a b) = (b ≤ a) := by
  apply propext
  have h1 : (0 ≤ lg_cmp a b) ↔ ¬ (lg_cmp a b < 0) := by
    rw [Int32.le_iff_toInt_le, Int32.lt_iff_toInt_lt]; omega
  rw [h1, pz_l_lt, Int64.le_iff_toInt_le, Int64.lt_iff_toInt_lt]
  omega
theorem pz_l_le {a b : Int64} : (lg_cmp a b ≤ 0) = (a ≤ b) := by
  apply propext
  have h1 : (lg_cmp a b ≤ 0) ↔ ¬ (0 < lg_cmp a b) := by
    rw [Int32.le_iff_toInt_le, Int32.lt_iff_toInt_lt]; omega
  rw [h1, pz_l_gt, Int64.le_iff_toInt_le, Int64.lt_iff_toInt_lt]
  omega
theorem pz_lN_lt {a b : Nat} (ha : a < 9223372036854775808) (hb : b < 9223372036854775808) : (lN a < lN b) = (a < b) := propext (pk_lLT ha hb)
theorem pz_lN_le {a b : Nat} (ha : a < 9223372036854775808) (hb : b < 9223372036854775808) : (lN a ≤ lN b) = (a ≤ b) := propext (pk_lLE ha hb)
theorem pz_lN_eq {a b : Nat} (ha : a < 9223372036854775808) (hb : b < 9223372036854775808) : (lN a = lN b) = (a = b) := propext (pk_lEQ ha hb)
theorem pz_lN_m1 {a : Nat} (ha : a < 9223372036854775808) : (lN a = -1) = False := by
  apply eq_false
  intro h
  have h1 := congrArg Int64.toInt h
  rw [pk_lT ha] at h1
  have h2 : (-1 : Int64).toInt = -1 := by decide
  omega
theorem pz_lN_n0 {a : Nat} (ha : a < 9223372036854775808) : (lN a < 0) = False := by
  rw [show ((0 : Int64)) = lN 0 from rfl, pz_lN_lt ha (by decide)]
  simp
theorem pz_lN_le0 {a : Nat} (ha : a < 9223372036854775808) : (lN a ≤ 0) = (a = 0) := by
  rw [show ((0 : Int64)) = lN 0 from rfl, pz_lN_le ha (by decide)]
  simp
theorem pz_lN_ge0 {a : Nat} (ha : a < 9223372036854775808) : ((0 : Int64) ≤ lN a) = True := by
  rw [show ((0 : Int64)) = lN 0 from rfl, pz_lN_le (by decide) ha]
  simp
theorem pz_m1_lt0 : ((-1 : Int64) < 0) = True := by simp
theorem pz_m1_le0 : ((-1 : Int64) ≤ 0) = True := by simp
theorem pz_m1_ge0 : ((0 : Int64) ≤ -1) = False := by simp
/-- counting -/
def pz_cnt (P : Nat → Bool) : Nat → Nat
  | 0 => 0
  | n + 1 => pz_cnt P n + (if P n then 1 else 0)
theorem pz_cnt_le (P : Nat → Bool) (n : Nat) : pz_cnt P n ≤ n := by
  induction n with
  | zero => simp [pz_cnt]
  | succ n ih => simp only [pz_cnt]; split <;> omega
theorem pz_cnt_mono {P Q : Nat → Bool} {n : Nat} (h : ∀ c, c < n → P c = true → Q c = true) : pz_cnt P n ≤ pz_cnt Q n := by
  induction n with
  | zero => simp [pz_cnt]
  | succ n ih =>
    have h1 := ih (fun c hc => h c (by omega))
    have h2 := h n (by omega)
    simp only [pz_cnt]
    by_cases hp : P n = true
    · simp [hp, h2 hp]; omega
    · simp [hp]; omega
theorem pz_cnt_lt {P Q : Nat → Bool} {n c0 : Nat} (h : ∀ c, c < n → P c = true → Q c = true) (hc : c0 < n) (hp : P c0 = false) (hq : Q c0 = true) : pz_cnt P n < pz_cnt Q n := by
  induction n with
  | zero => omega
  | succ n ih =>
    simp only [pz_cnt]
    by_cases he : c0 = n
    · subst he
      have h1 := pz_cnt_mono (n := c0) (fun c hc => h c (by omega))
      simp [hp, hq]; omega
    · have h1 := ih (fun c hc => h c (by omega)) (by omega)
      have h2 := h n (by omega)
      by_cases hp' : P n = true
      · simp [hp', h2 hp']; omega
      · simp [hp']; omega
theorem pz_cnt_lt_n {P : Nat → Bool} {n c0 : Nat} (hc : c0 < n) (hp : P c0 = false) : pz_cnt P n < n :=
  Nat.lt_of_lt_of_le (pz_cnt_lt (Q := fun _ => true) (fun _ _ _ => rfl) hc hp rfl) (pz_cnt_le _ _)
theorem pz_cnt_congr {P Q : Nat → Bool} {n : Nat} (h : ∀ c, c < n → P c = Q c) : pz_cnt P n = pz_cnt Q n := by
  induction n with
  | zero => rfl
  | succ n ih => simp only [pz_cnt]; rw [ih (fun c hc => h c (by omega)), h n (by omega)]
theorem pz_cnt_one {P Q : Nat → Bool} {n c0 : Nat} (h : ∀ c, c < n → c ≠ c0 → Q c = P c) (hc : c0 < n) (hp : P c0 = false) (hq : Q c0 = true) : pz_cnt Q n = pz_cnt P n + 1 := by
  induction n with
  | zero => omega
  | succ n ih =>
    simp only [pz_cnt]
    by_cases he : c0 = n
    · subst he
      rw [pz_cnt_congr (n := c0) (fun c hc => h c (by omega) (by omega))]
      simp [hp, hq]
    · rw [ih (fun c hc => h c (by omega)) (by omega), h n (by omega) (fun q => he q.symm)]
      omega

/-! The frontier -/
def pz_cs (S : zz_St) (n : Int32) (d t : Nat → Int64) (h s : Nat → Int32) : zz_St := (zz_up S.1 8 n, S.2.1, zz_up (zz_up S.2.2.1 19 h) 20 s, zz_up (zz_up S.2.2.2.1 17 d) 18 t, S.2.2.2.2)
theorem pz_up_sw {α : Type} {f : Nat → α} {k j : Nat} {v w u : α} (h : k ≠ j) : zz_up (zz_up (zz_up f k v) j w) k u = zz_up (zz_up f k u) j w := by
  funext i
  unfold zz_up
  by_cases h1 : i = k
  · subst h1; simp [h]
  · simp [h1]
theorem pz_cs_gi8 {S : zz_St} {n : Int32} {d t : Nat → Int64} {h s : Nat → Int32} : zz_gi (pz_cs S n d t h s) 8 = n := by simp [zz_gi, pz_cs, zz_up]
theorem pz_cs_gi {S : zz_St} {n : Int32} {d t : Nat → Int64} {h s : Nat → Int32} {i : Nat} (hi : i ≠ 8) : zz_gi (pz_cs S n d t h s) i = zz_gi S i := by simp [zz_gi, pz_cs, zz_up, hi]
theorem pz_cs_gl {S : zz_St} {n : Int32} {d t : Nat → Int64} {h s : Nat → Int32} {i : Nat} : zz_gl (pz_cs S n d t h s) i = zz_gl S i := rfl
theorem pz_cs_ga19 {S : zz_St} {n : Int32} {d t : Nat → Int64} {h s : Nat → Int32} : zz_ga (pz_cs S n d t h s) 19 = h := by simp [zz_ga, pz_cs, zz_up]
theorem pz_cs_ga20 {S : zz_St} {n : Int32} {d t : Nat → Int64} {h s : Nat → Int32} : zz_ga (pz_cs S n d t h s) 20 = s := by simp [zz_ga, pz_cs, zz_up]
theorem pz_cs_ga {S : zz_St} {n : Int32} {d t : Nat → Int64} {h s : Nat → Int32} {i : Nat} (hi : i ≠ 19) (hj : i ≠ 20) : zz_ga (pz_cs S n d t h s) i = zz_ga S i := by simp [zz_ga, pz_cs, zz_up, hi, hj]
theorem pz_cs_gA17 {S : zz_St} {n : Int32} {d t : Nat → Int64} {h s : Nat → Int32} : zz_gA (pz_cs S n d t h s) 17 = d := by simp [zz_gA, pz_cs, zz_up]
theorem pz_cs_gA18 {S : zz_St} {n : Int32} {d t : Nat → Int64} {h s : Nat → Int32} : zz_gA (pz_cs S n d t h s) 18 = t := by simp [zz_gA, pz_cs, zz_up]
theorem pz_cs_gA {S : zz_St} {n : Int32} {d t : Nat → Int64} {h s : Nat → Int32} {i : Nat} (hi : i ≠ 17) (hj : i ≠ 18) : zz_gA (pz_cs S n d t h s) i = zz_gA S i := by simp [zz_gA, pz_cs, zz_up, hi, hj]
theorem pz_cs_gp {S : zz_St} {n : Int32} {d t : Nat → Int64} {h s : Nat → Int32} {i : Nat} : zz_gp (pz_cs S n d t h s) i = zz_gp S i := rfl
theorem pz_cs_si8 {S : zz_St} {n m : Int32} {d t : Nat → Int64} {h s : Nat → Int32} : zz_si (pz_cs S n d t h s) 8 m = pz_cs S m d t h s := by
  unfold zz_si pz_cs
  simp [pz_up_up]
theorem pz_cs_sa19 {S : zz_St} {n : Int32} {d t : Nat → Int64} {h s g : Nat → Int32} : zz_sa (pz_cs S n d t h s) 19 g = pz_cs S n d t g s := by
  unfold zz_sa pz_cs
  simp [pz_up_sw]
theorem pz_cs_sa20 {S : zz_St} {n : Int32} {d t : Nat → Int64} {h s g : Nat → Int32} : zz_sa (pz_cs S n d t h s) 20 g = pz_cs S n d t h g := by
  unfold zz_sa pz_cs
  simp [pz_up_up]
theorem pz_cs_sA17 {S : zz_St} {n : Int32} {d t g : Nat → Int64} {h s : Nat → Int32} : zz_sA (pz_cs S n d t h s) 17 g = pz_cs S n g t h s := by
  unfold zz_sA pz_cs
  simp [pz_up_sw]
theorem pz_cs_sA18 {S : zz_St} {n : Int32} {d t g : Nat → Int64} {h s : Nat → Int32} : zz_sA (pz_cs S n d t h s) 18 g = pz_cs S n d g h s := by
  unfold zz_sA pz_cs
  simp [pz_up_up]
theorem pz_cs_id {S : zz_St} : S = pz_cs S (zz_gi S 8) (zz_gA S 17) (zz_gA S 18) (zz_ga S 19) (zz_ga S 20) := by
  unfold pz_cs zz_gi zz_gA zz_ga
  have : ∀ {α : Type} (f : Nat → α) (a b : Nat), zz_up (zz_up f a (f a)) b (f b) = f := by
    intro α f a b
    rw [pz_up_id, pz_up_id]
  rw [pz_up_id, this, this]
/-- who sits where -/
def pz_str (z n : Nat) (A : Nat → Nat) (B : Nat → Option Nat) : Prop := (∀ i, i < n → A i < z ∧ B (A i) = some i) ∧ (∀ c i, c < z → B c = some i → i < n ∧ A i = c) ∧ n = pz_cnt (fun c => (B c).isSome) z
def pz_swA (A : Nat → Nat) (p q : Nat) : Nat → Nat := fun i => if i = p then A q else if i = q then A p else A i
def pz_swB (A : Nat → Nat) (B : Nat → Option Nat) (p q : Nat) : Nat → Option Nat := fun c => if c = A q then some p else if c = A p then some q else B c
theorem pz_str_sw {z n : Nat} {A : Nat → Nat} {B : Nat → Option Nat} (h : pz_str z n A B) {p q : Nat} (hp : p < n) (hq : q < n) : pz_str z n (pz_swA A p q) (pz_swB A B p q) := by
  obtain ⟨h1, h2, h3⟩ := h
  have ip := h1 p hp
  have iq := h1 q hq
  have inj : ∀ i j, i < n → j < n → A i = A j → i = j := by
    intro i j hi hj he
    have a := (h1 i hi).2
    have b := (h1 j hj).2
    rw [he, b] at a
    cases a
    rfl
  refine ⟨?_, ?_, ?_⟩
  · intro i hi
    unfold pz_swA pz_swB
    have a := h1 i hi
    by_cases e1 : i = p
    · subst e1; simp [iq.1]
    · by_cases e2 : i = q
      · subst e2
        simp only [e1, if_false, if_true]
        refine ⟨ip.1, ?_⟩
        rw [if_neg (fun he => e1 (inj _ _ hp hi he).symm)]
      · simp only [e1, e2, if_false]
        refine ⟨a.1, ?_⟩
        rw [if_neg (fun he => e2 (inj _ _ hi hq he)), if_neg (fun he => e1 (inj _ _ hi hp he))]
        exact a.2
  · intro c i hc hb
    unfold pz_swB at hb
    unfold pz_swA
    by_cases e1 : c = A q
    · rw [if_pos e1] at hb
      cases hb
      simp [hp, e1]
    · rw [if_neg e1] at hb
      by_cases e2 : c = A p
      · rw [if_pos e2] at hb
        cases hb
        refine ⟨hq, ?_⟩
        by_cases e3 : q = p
        · subst e3; simp [e2]
        · simp [e3, e2]
      · rw [if_neg e2] at hb
        obtain ⟨a, b⟩ := h2 c i hc hb
        refine ⟨a, ?_⟩
        rw [if_neg (fun he => e2 (by rw [← b, he])), if_neg (fun he => e1 (by rw [← b, he]))]
        exact b
  · rw [h3]
    apply pz_cnt_congr
    intro c hc
    unfold pz_swB
    by_cases e1 : c = A q
    · subst e1; simp [iq.2]
    · by_cases e2 : c = A p
      · subst e2; simp [ip.2, e1]
      · simp [e1, e2]
theorem pz_sw_some {z n : Nat} {A : Nat → Nat} {B : Nat → Option Nat} (h : pz_str z n A B) {p q : Nat} (hp : p < n) (hq : q < n) (c : Nat) : (pz_swB A B p q c).isSome = (B c).isSome := by
  unfold pz_swB
  have ip := h.1 p hp
  have iq := h.1 q hq
  by_cases e1 : c = A q
  · subst e1; simp [iq.2]
  · by_cases e2 : c = A p
    · subst e2; simp [ip.2, e1]
    · simp [e1, e2]
def pz_ord (k : Nat → Nat) (n : Nat) : Prop := ∀ i, 0 < i → i < n → k ((i - 1) / 2) ≤ k i
def pz_up1 (k : Nat → Nat) (at' n : Nat) : Prop := (∀ i, 0 < i → i < n → i ≠ at' → k ((i - 1) / 2) ≤ k i) ∧ (0 < at' → ∀ i, 0 < i → i < n → (i - 1) / 2 = at' → k ((at' - 1) / 2) ≤ k i)
def pz_dn1 (k : Nat → Nat) (at' n : Nat) : Prop := (∀ i, 0 < i → i < n → (i - 1) / 2 ≠ at' → k ((i - 1) / 2) ≤ k i) ∧ (0 < at' → ∀ i, 0 < i → i < n → (i - 1) / 2 = at' → k ((at' - 1) / 2) ≤ k i)
theorem pz_up1_step {k : Nat → Nat} {a n : Nat} (h : pz_up1 k a n) (ha : 0 < a) (han : a < n) (hlt : k a < k ((a - 1) / 2)) : pz_up1 (pz_swA k ((a - 1) / 2) a) ((a - 1) / 2) n := by
  obtain ⟨h1, h2⟩ := h
  generalize hp : (a - 1) / 2 = p at *
  have hpa : p < a := by omega
  refine ⟨?_, ?_⟩
  · intro i hi hin hip
    unfold pz_swA
    rw [if_neg hip]
    by_cases e1 : i = a
    · subst e1
      rw [hp, if_pos rfl, if_pos rfl]
      omega
    · rw [if_neg e1]
      by_cases e2 : (i - 1) / 2 = p
      · rw [if_pos e2]
        have := h1 i hi hin e1
        rw [e2] at this
        omega
      · rw [if_neg e2]
        by_cases e3 : (i - 1) / 2 = a
        · rw [if_pos e3]
          exact h2 ha i hi hin e3
        · rw [if_neg e3]
          exact h1 i hi hin e1
  · intro h0 i hi hin hip
    unfold pz_swA
    rw [if_neg (show ¬ (p - 1) / 2 = p by omega), if_neg (show ¬ (p - 1) / 2 = a by omega), if_neg (show ¬ i = p by omega)]
    have b := h1 p h0 (by omega) (by omega)
    by_cases e1 : i = a
    · rw [if_pos e1]; exact b
    · rw [if_neg e1]
      have := h1 i hi hin e1
      rw [hip] at this
      omega
theorem pz_dn1_step {k : Nat → Nat} {a b n : Nat} (h : pz_dn1 k a n) (hb : b < n) (hba : 0 < b ∧ (b - 1) / 2 = a) (hmin : ∀ i, 0 < i → i < n → (i - 1) / 2 = a → k b ≤ k i) (hlt : k b < k a) : pz_dn1 (pz_swA k b a) b n := by
  obtain ⟨h1, h2⟩ := h
  obtain ⟨b0, hba⟩ := hba
  have hab : a < b := by omega
  refine ⟨?_, ?_⟩
  · intro i hi hin hip
    unfold pz_swA
    rw [if_neg hip]
    by_cases e1 : (i - 1) / 2 = a
    · rw [if_pos e1]
      by_cases e2 : i = b
      · rw [if_pos e2]; omega
      · rw [if_neg e2, if_neg (show ¬ i = a by omega)]
        exact hmin i hi hin e1
    · rw [if_neg e1]
      by_cases e2 : i = b
      · subst e2; exact absurd hba e1
      · rw [if_neg e2]
        by_cases e3 : i = a
        · subst e3
          rw [if_pos rfl]
          exact h2 hi b b0 hb hba
        · rw [if_neg e3]
          exact h1 i hi hin e1
  · intro _ i hi hin hip
    unfold pz_swA
    rw [hba, if_neg (show ¬ a = b by omega), if_pos rfl, if_neg (show ¬ i = b by omega), if_neg (show ¬ i = a by omega)]
    have := h1 i hi hin (by omega)
    rw [hip] at this
    exact this
theorem pz_ord_top {k : Nat → Nat} {n : Nat} (h : pz_ord k n) (i : Nat) (hi : i < n) : k 0 ≤ k i := by
  induction i using Nat.strongRecOn with
  | ind i ih =>
    by_cases h0 : i = 0
    · subst h0; exact Nat.le_refl _
    · have := ih ((i - 1) / 2) (by omega) (by omega)
      have := h i (by omega) hi
      omega
/-- the heap as the rows hold it -/
def pz_rows (z n : Nat) (A : Nat → Nat) (B : Nat → Option Nat) (h s : Nat → Int32) : Prop := (∀ i, i < n → h i = nI (A i)) ∧ ∀ c, c < z → s c = pz_o (B c)
def pz_heap (z n : Nat) (K : Nat → Nat) (B : Nat → Option Nat) (h s : Nat → Int32) : Prop := ∃ A, pz_str z n A B ∧ pz_ord (fun i => K (A i)) n ∧ pz_rows z n A B h s
def pz_key (z : Nat) (d : Nat → Int64) (K : Nat → Nat) (B : Nat → Option Nat) : Prop := ∀ c, c < z → (B c).isSome = true → d c = lN (K c) ∧ K c < 9223372036854775808
theorem pz_c_seatAt {S : zz_St} {n : Int32} {d t : Nat → Int64} {h s : Nat → Int32} {N z a x : Nat} (ha : a < z) (hx : x < z) (hz : z ≤ 1024) :
    zf_X0_seatAt N z (pz_cs S n d t h s) (nI a) (nI x) = some (pz_cs S n d t (upd h a (nI x)) (upd s x (nI a))) := by
  apply pz_eq_of
  unfold zf_X0_seatAt
  simp only [pz_T_ite, pz_T_gd, pz_T_jn1, pz_T_jn2, pz_T_some, pz_T_let, pz_T_b1, pz_T_b2]
  simp (disch := omega) only [pz_cs_gi8, pz_cs_gi, pz_cs_gl, pz_cs_ga19, pz_cs_ga20, pz_cs_ga, pz_cs_gA17, pz_cs_gA18, pz_cs_gA, pz_cs_gp, pz_cs_si8, pz_cs_sa19, pz_cs_sa20, pz_cs_sA17, pz_cs_sA18, pz_in, nI_clampI, ha, hx, true_and]
theorem pz_2_pow {a l : Nat} (h : a * 2 ^ l ≤ 1023) (hl : 32 ≤ l) : a = 0 := by
  by_cases h0 : a = 0
  · exact h0
  · have h1 : 2 ^ 32 ≤ 2 ^ l := Nat.pow_le_pow_right (by decide) hl
    have h2 : 1 * 2 ^ l ≤ a * 2 ^ l := Nat.mul_le_mul_right _ (by omega)
    omega
theorem pz_put_loop {S : zz_St} {d t : Nat → Int64} {h s : Nat → Int32} {N z n x a : Nat} {K : Nat → Nat} {A : Nat → Nat} {B : Nat → Option Nat} (hz : z ≤ 1024) (hN : 2000 ≤ N) (hx : x < z) (hn : n ≤ z) (han : a < n)
    (hstr : pz_str z n A B) (hk : pz_key z d K B) (hup : pz_up1 (fun i => K (A i)) a n) (hAa : A a = x) (hh : ∀ i, i < n → i ≠ a → h i = nI (A i)) (hss : ∀ c, c < z → c ≠ x → s c = pz_o (B c)) {F : (Int32 → Int32 → zz_St → Option zz_St) → Int32 → Int32 → zz_St → Option zz_St}
    (hF : F = fun rc10 v7 v8 S9 => zz_jn1 (fun (_ : Unit) => zz_b1 (zf_X0_seatAt N z S9 v7 (nI x)) (fun S15 => some S15)) (fun j13 => if ((32 : Int32)) ≤ v8 then (j13 ()) else (if v7 ≤ 0 then (j13 ()) else (zz_gd (!(((2 : Int32)) == 0)) (zz_let ((v7 - ((1 : Int32))) / ((2 : Int32))) (fun x16 => zz_gd (zz_in x16 z) (zz_gd (zz_in (zz_ga S9 19 x16.toNatClampNeg) z) (zz_gd (zz_in (nI x) z) (if 0 < (lg_cmp (zz_gA S9 17 (zz_ga S9 19 x16.toNatClampNeg).toNatClampNeg) (zz_gA S9 17 (nI x).toNatClampNeg)) then (zz_gd (zz_in x16 z) (zz_b1 (zf_X0_seatAt N z S9 v7 (zz_ga S9 19 x16.toNatClampNeg)) (fun S17 => zz_let x16 (fun x18 => zz_let (v8 + (1 : Int32)) (fun x19 => rc10 x18 x19 S17))))) else (j13 ())))))))))) :
    pz_T (zz_fix3 F N (nI a) 0 (pz_cs S (nI n) d t h s)) (fun S' => ∃ B' h' s', S' = pz_cs S (nI n) d t h' s' ∧ pz_heap z n K B' h' s' ∧ ∀ c, c < z → (B' c).isSome = (B c).isSome) := by
  subst hF
  refine pz_fixm3 (fun m v7 v8 S9 => ∃ a l h s A B', a = m ∧ v7 = nI a ∧ v8 = nI l ∧ S9 = pz_cs S (nI n) d t h s ∧ a < n ∧ l ≤ 32 ∧ a * 2 ^ l ≤ 1023 ∧ pz_str z n A B' ∧ (∀ c, c < z → (B' c).isSome = (B c).isSome) ∧ pz_up1 (fun i => K (A i)) a n ∧ A a = x ∧ (∀ i, i < n → i ≠ a → h i = nI (A i)) ∧ (∀ c, c < z → c ≠ x → s c = pz_o (B' c))) ?_ N a _ _ _ ⟨a, 0, h, s, A, B, rfl, rfl, rfl, rfl, han, by omega, by simp; omega, hstr, fun _ _ => rfl, hup, hAa, hh, hss⟩ (by omega)
  rintro rc m _ _ _ ⟨a, l, h, s, A, B', rfl, rfl, rfl, rfl, han2, hl, hpow, hstr', hsome, hup', hAa2, hh2, hss2⟩ hrc
  have hdone : (a = 0 ∨ (0 < a ∧ K (A ((a - 1) / 2)) ≤ K x)) → pz_T (zf_X0_seatAt N z (pz_cs S (nI n) d t h s) (nI a) (nI x)) (fun S' => ∃ B' h' s', S' = pz_cs S (nI n) d t h' s' ∧ pz_heap z n K B' h' s' ∧ ∀ c, c < z → (B' c).isSome = (B c).isSome) := by
    intro hor
    rw [pz_T_eq (pz_c_seatAt (by omega) hx hz)]
    refine ⟨B', _, _, rfl, ⟨A, hstr', ?_, ?_, ?_⟩, hsome⟩
    · intro i hi hin
      by_cases e : i = a
      · subst e
        rcases hor with e0 | ⟨_, e0⟩
        · omega
        · dsimp only; rw [hAa2]; exact e0
      · exact hup'.1 i hi hin e
    · intro i hi
      by_cases e : i = a
      · subst e; rw [pk_us, hAa2]
      · rw [pk_un e]; exact hh2 i hi e
    · intro c hc
      by_cases e : c = x
      · subst e
        have := (hstr'.1 a han2).2
        rw [hAa2] at this
        rw [pk_us, this, pz_o_s]
      · rw [pk_un e]; exact hss2 c hc e
  simp only [pz_T_ite, pz_T_gd, pz_T_jn1, pz_T_jn2, pz_T_some, pz_T_let, pz_T_b1, pz_T_b2]
  refine ⟨fun h32 => ?_, fun h32 => ⟨fun ha0 => ?_, fun ha0 => ⟨by decide, ?_⟩⟩⟩
  · rw [pz_c32a (by omega)] at h32
    exact hdone (Or.inl (pz_2_pow hpow h32))
  · rw [pz_c0c (by omega)] at ha0
    exact hdone (Or.inl (by omega))
  · rw [pz_c32a (by omega)] at h32
    rw [pz_c0c (by omega)] at ha0
    rw [pz_sub1 (by omega), pz_d2 (by omega)]
    have hp := hh2 ((a - 1) / 2) (by omega) (by omega)
    have hAp := hstr'.1 ((a - 1) / 2) (by omega)
    have hxin := hstr'.1 a han2
    rw [hAa2] at hxin
    have kp := hk _ hAp.1 (by rw [← hsome _ hAp.1, hAp.2]; rfl)
    have kx := hk x hx (by rw [← hsome _ hx, hxin.2]; rfl)
    simp (disch := omega) only [pz_cs_gi8, pz_cs_gi, pz_cs_gl, pz_cs_ga19, pz_cs_ga20, pz_cs_ga, pz_cs_gA17, pz_cs_gA18, pz_cs_gA, pz_cs_gp, pz_cs_si8, pz_cs_sa19, pz_cs_sa20, pz_cs_sA17, pz_cs_sA18, pz_in, nI_clampI, nI_1, hp, pz_l_gt, kp.1, kx.1, pz_lN_lt]
    refine ⟨by omega, hAp.1, hx, fun hgt => ⟨by omega, ?_⟩, fun hng => hdone (Or.inr ⟨by omega, by omega⟩)⟩
    rw [pz_T_eq (pz_c_seatAt (by omega) hAp.1 hz)]
    refine hrc ((a - 1) / 2) _ _ _ (by omega) ⟨(a - 1) / 2, l + 1, _, _, pz_swA A ((a - 1) / 2) a, pz_swB A B' ((a - 1) / 2) a, rfl, rfl, rfl, rfl, by omega, by omega, ?_, pz_str_sw hstr' (by omega) han2, ?_, ?_, ?_, ?_, ?_⟩
    · rw [Nat.pow_succ]
      have h1 : (a - 1) / 2 * (2 ^ l * 2) = ((a - 1) / 2 * 2) * 2 ^ l := by rw [Nat.mul_comm (2 ^ l) 2, Nat.mul_assoc]
      have h2 : ((a - 1) / 2 * 2) * 2 ^ l ≤ a * 2 ^ l := Nat.mul_le_mul_right _ (by omega)
      omega
    · intro c hc
      rw [pz_sw_some hstr' (by omega) han2]
      exact hsome c hc
    · have := pz_up1_step hup' (by omega) han2 (by rw [hAa2]; exact hgt)
      have he : (fun i => K (pz_swA A ((a - 1) / 2) a i)) = pz_swA (fun i => K (A i)) ((a - 1) / 2) a := by
        funext i
        unfold pz_swA
        by_cases e1 : i = (a - 1) / 2
        · simp [e1]
        · by_cases e2 : i = a
          · subst e2; simp [e1]
          · simp [e1, e2]
      rw [he]
      exact this
    · simp [pz_swA, hAa2]
    · intro i hi hip
      unfold pz_swA
      rw [if_neg hip]
      by_cases e : i = a
      · subst e; rw [pk_us, if_pos rfl]
      · rw [pk_un e, if_neg e]; exact hh2 i hi e
    · intro c hc hcx
      unfold pz_swB
      rw [hAa2, if_neg hcx]
      by_cases e : c = A ((a - 1) / 2)
      · rw [if_pos e, e, pk_us, pz_o_s]
      · rw [if_neg e, pk_un e]; exact hss2 c hc hcx
theorem pz_c_put {S : zz_St} {d t : Nat → Int64} {h s : Nat → Int32} {N z n x : Nat} {K K0 : Nat → Nat} {B : Nat → Option Nat} (hz : z ≤ 1024) (hN : 2000 ≤ N) (hx : x < z) (hh : pz_heap z n K0 B h s)
    (hK : ∀ c, c < z → c ≠ x → K c = K0 c) (hKx : (B x).isSome = true → K x ≤ K0 x) (hk : ∀ c, c < z → ((B c).isSome = true ∨ c = x) → d c = lN (K c) ∧ K c < 9223372036854775808) :
    pz_T (zf_X0_put N z (pz_cs S (nI n) d t h s) (nI x)) (fun S' => ∃ n' B' h' s', S' = pz_cs S (nI n') d t h' s' ∧ pz_heap z n' K B' h' s' ∧ ∀ c, c < z → (B' c).isSome = ((B c).isSome || decide (c = x))) := by
  obtain ⟨A, hstr, hord, hr1, hr2⟩ := hh
  have hnz : n ≤ z := by
    rw [hstr.2.2]; exact pz_cnt_le _ _
  unfold zf_X0_put
  simp only [pz_T_gd, pz_T_let]
  have hval : zz_ga (pz_cs S (nI n) d t h s) 20 (nI x).toNatClampNeg = pz_o (B x) := by rw [pz_cs_ga20, nI_clampI (by omega), hr2 x hx]
  rw [hval]
  refine ⟨by rw [pz_in (by omega)]; exact hx, ?_⟩
  cases hB : B x with
  | none =>
    have hlt : n < z := by
      rw [hstr.2.2]
      exact pz_cnt_lt_n hx (by simp [hB])
    rw [pz_T_jn2]
    rw [if_pos (show pz_o none = -1 from rfl)]
    rw [pz_cs_gi8, pz_T_ite]
    refine ⟨fun _ => ?_, fun hge => ?_⟩
    · rw [pz_T_let, pz_T_let, pz_T_let, pz_cs_si8, nI_1]
      have hne : ∀ i, i < n → A i ≠ x := by
        intro i hi he
        have := (hstr.1 i hi).2
        rw [he, hB] at this
        cases this
      have hstr1 : pz_str z (n + 1) (fun i => if i = n then x else A i) (fun c => if c = x then some n else B c) := by
        refine ⟨?_, ?_, ?_⟩
        · intro i hi
          by_cases e : i = n
          · subst e; simp [hx]
          · simp only [e, if_false]
            have := hstr.1 i (by omega)
            refine ⟨this.1, ?_⟩
            rw [if_neg (hne i (by omega))]
            exact this.2
        · intro c i hc hb
          by_cases e : c = x
          · subst e
            simp at hb
            subst hb
            simp
          · simp only [e, if_false] at hb
            have := hstr.2.1 c i hc hb
            refine ⟨by omega, ?_⟩
            simp only [show ¬ i = n by omega, if_false]
            exact this.2
        · have := pz_cnt_one (P := fun c => (B c).isSome) (Q := fun c => (if c = x then some n else B c).isSome) (n := z) (c0 := x) (fun c _ hc => by simp [hc]) hx (by simp [hB]) (by simp)
          rw [this, ← hstr.2.2]
      refine pz_T_mono (pz_put_loop (S := S) (d := d) (t := t) (h := h) (s := s) (n := n + 1) (a := n) (K := K) (A := fun i => if i = n then x else A i) (B := fun c => if c = x then some n else B c) hz hN hx (by omega) (by omega) hstr1 ?_ ?_ (by simp) ?_ ?_ rfl) ?_
      · intro c hc hs
        apply hk c hc
        by_cases e : c = x
        · exact Or.inr e
        · simp only [e, if_false] at hs
          exact Or.inl hs
      · refine ⟨?_, ?_⟩
        · intro i hi hin hia
          have h1 : ¬ (i - 1) / 2 = n := by omega
          simp only [hia, h1, if_false]
          rw [hK _ (hstr.1 i (by omega)).1 (hne i (by omega)), hK _ (hstr.1 ((i - 1) / 2) (by omega)).1 (hne _ (by omega))]
          exact hord i hi (by omega)
        · intro _ i hi hin hia
          omega
      · intro i hi hia
        simp only [hia, if_false]
        exact hr1 i (by omega)
      · intro c hc hcx
        simp only [hcx, if_false]
        exact hr2 c hc
      · rintro S' ⟨B', h', s', rfl, hheap, hsome⟩
        refine ⟨n + 1, B', h', s', rfl, hheap, ?_⟩
        intro c hc
        rw [hsome c hc]
        by_cases e : c = x
        · simp [e]
        · simp [e]
    · exfalso
      apply hge
      rw [pz_ltI (by omega) (by omega)]
      exact hlt
  | some a =>
    have ha := hstr.2.1 x a hx hB
    rw [pz_T_jn2]
    rw [if_neg (show ¬ pz_o (some a) = -1 by rw [pz_o_s, pz_nm1 (by omega)]; exact id)]
    rw [pz_T_let, pz_o_s]
    refine pz_T_mono (pz_put_loop (S := S) (d := d) (t := t) (h := h) (s := s) (n := n) (a := a) (K := K) (A := A) (B := B) hz hN hx hnz ha.1 hstr ?_ ?_ ha.2 ?_ ?_ rfl) ?_
    · intro c hc hs
      exact hk c hc (Or.inl hs)
    · have hneq : ∀ i, i < n → i ≠ a → A i ≠ x := by
        intro i hi hia he
        have := (hstr.1 i hi).2
        rw [he, hB] at this
        cases this
        exact hia rfl
      have hKx' := hKx (by rw [hB]; rfl)
      refine ⟨?_, ?_⟩
      · intro i hi hin hia
        dsimp only
        have h1 := hord i hi hin
        dsimp only at h1
        rw [hK _ (hstr.1 i hin).1 (hneq i hin hia)]
        by_cases e : (i - 1) / 2 = a
        · rw [e, ha.2]
          rw [e, ha.2] at h1
          omega
        · rw [hK _ (hstr.1 ((i - 1) / 2) (by omega)).1 (hneq _ (by omega) e)]
          exact h1
      · intro h0 i hi hin hia
        dsimp only
        have h1 := hord i hi hin
        have h2 := hord a h0 ha.1
        dsimp only at h1 h2
        rw [hia, ha.2] at h1
        rw [ha.2] at h2
        rw [hK _ (hstr.1 i hin).1 (hneq i hin (by omega)), hK _ (hstr.1 ((a - 1) / 2) (by omega)).1 (hneq _ (by omega) (by omega))]
        omega
    · intro i hi _
      exact hr1 i hi
    · intro c hc _
      exact hr2 c hc
    · rintro S' ⟨B', h', s', rfl, hheap, hsome⟩
      refine ⟨n, B', h', s', rfl, hheap, ?_⟩
      intro c hc
      rw [hsome c hc]
      by_cases e : c = x
      · simp [e, hB]
      · simp [e]

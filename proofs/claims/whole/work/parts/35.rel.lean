/-! The class and the reference side by side -/
theorem pz_T_swap {α β : Type} {x : Option α} {y : Option β} {P : α → β → Prop} (h : pz_T y (fun b => pz_T x (fun a => P a b))) : pz_T x (fun a => pz_T y (fun b => P a b)) := by
  obtain ⟨b, h1, a, h2, h3⟩ := h
  exact ⟨a, h2, b, h1, h3⟩
theorem pz_fix21 {A0 A1 B0 α β : Type} {F : (A0 → A1 → Option α) → A0 → A1 → Option α} {G : (B0 → Option β) → B0 → Option β} {P : α → β → Prop} (I : Nat → A0 → A1 → B0 → Prop)
    (hb : ∀ rc rm m x0 x1 y, I m x0 x1 y → (∀ m' x0' x1' y', m' < m → I m' x0' x1' y' → pz_T (rc x0' x1') (fun r => pz_T (rm y') (P r))) → pz_T (F rc x0 x1) (fun r => pz_T (G rm y) (P r))) :
    ∀ k k' m x0 x1 y, I m x0 x1 y → m < k → m < k' → pz_T (zz_fix2 F k x0 x1) (fun r => pz_T (zz_fix1 G k' y) (P r)) := by
  intro k
  induction k with
  | zero => intro k' m x0 x1 y _ h; omega
  | succ k ih =>
    intro k' m x0 x1 y hi hm hm'
    cases k' with
    | zero => omega
    | succ k' => exact hb _ _ m x0 x1 y hi (fun m' x0' x1' y' hlt hy => ih k' m' x0' x1' y' hy (by omega) (by omega))
theorem pz_fix22 {A0 A1 B0 B1 α β : Type} {F : (A0 → A1 → Option α) → A0 → A1 → Option α} {G : (B0 → B1 → Option β) → B0 → B1 → Option β} {P : α → β → Prop} (I : Nat → A0 → A1 → B0 → B1 → Prop)
    (hb : ∀ rc rm m x0 x1 y0 y1, I m x0 x1 y0 y1 → (∀ m' x0' x1' y0' y1', m' < m → I m' x0' x1' y0' y1' → pz_T (rc x0' x1') (fun r => pz_T (rm y0' y1') (P r))) → pz_T (F rc x0 x1) (fun r => pz_T (G rm y0 y1) (P r))) :
    ∀ k k' m x0 x1 y0 y1, I m x0 x1 y0 y1 → m < k → m < k' → pz_T (zz_fix2 F k x0 x1) (fun r => pz_T (zz_fix2 G k' y0 y1) (P r)) := by
  intro k
  induction k with
  | zero => intro k' m x0 x1 y0 y1 _ h; omega
  | succ k ih =>
    intro k' m x0 x1 y0 y1 hi hm hm'
    cases k' with
    | zero => omega
    | succ k' => exact hb _ _ m x0 x1 y0 y1 hi (fun m' x0' x1' y0' y1' hlt hy => ih k' m' x0' x1' y0' y1' hy (by omega) (by omega))
theorem pr_lNc {n : Nat} (h : n < 9223372036854775808) : (lN n).toInt.toNat = n := by
  rw [pk_lT h]
  exact Int.toNat_natCast n
def pr_A (W H D nn : Nat) (S M : zz_St) : Prop := pz_cgeo W H D S ∧ pz_mgeo W H D M ∧ nn ≤ 12 ∧ zz_gi S 0 = nI nn ∧ zz_gi M 4 = nI nn ∧ zz_gi M 5 = zz_gi S 1 ∧ zz_gl M 0 = zz_gl S 0
def pr_B (z q : Nat) (S M : zz_St) : Prop := ∀ c, c < z → zz_ga M 5 c = zz_ga S 8 c ∧ zz_ga M 4 c = zz_ga S 9 c ∧ ∃ h, h ≤ q ∧ zz_gA S 12 c = lN h ∧ zz_gA M 6 c = lN h
def pr_C (S M : zz_St) : Prop := ∀ l, l < 4 → ∃ a v n, (a ≤ 50 ∧ v ≤ 50 ∧ n ≤ 50) ∧ (zz_ga S 13 l = nI a ∧ zz_ga S 14 l = nI v ∧ zz_ga S 15 l = nI n) ∧ zz_ga M 7 l = nI a ∧ zz_ga M 8 l = nI v ∧ zz_ga M 9 l = nI n
def pr_D (nn : Nat) (pc : Nat → Nat) (S M : zz_St) : Prop := ∀ n, n < 12 → (pc n ≤ 5 ∧ zz_ga S 21 n = nI (pc n) ∧ zz_ga M 1 n = nI (pc n)) ∧ (zz_ga M 10 n = zz_ga S 22 n ∧ (zz_ga S 22 n = 0 ∨ zz_ga S 22 n = 1)) ∧ zz_gA M 13 n = zz_gA S 21 n ∧ zz_ga M 14 n = zz_ga S 24 n ∧ zz_ga M 15 n = zz_ga S 23 n ∧ ∀ i, i < 32 → bt (zz_ga S 23 n) i = true → i < nn
def pr_E (z : Nat) (pc : Nat → Nat) (pn : Nat → Nat → Nat) (S M : zz_St) : Prop := ∀ n, n < 12 → (∀ p, p < pc n → zz_gp S n p = nI (pn n p) ∧ zz_ga M 2 (5 * n + p) = nI (pn n p) ∧ pn n p < z ∧ zz_ga S 9 (pn n p) ≠ 0 ∧ zz_ga S 10 (pn n p) = nI n) ∧ ∀ p p', p < pc n → p' < pc n → pn n p = pn n p' → p = p'
def pr_F (z nn : Nat) (pc : Nat → Nat) (pn : Nat → Nat → Nat) (k : Nat) (T : Nat → Prop) (S M : zz_St) : Prop := ∀ c, c < z → (¬ T c → zz_ga M 3 c = zz_ga S 10 c) ∧ (T c → zz_ga M 3 c = nI k ∧ (zz_ga S 10 c = -1 ∨ zz_ga S 10 c = nI k)) ∧ (zz_ga S 10 c = -1 ∨ ∃ o, o < nn ∧ zz_ga S 10 c = nI o) ∧ (zz_ga S 9 c ≠ 0 → ∃ n p, n < 12 ∧ p < pc n ∧ pn n p = c)
def pr_G1 (z : Nat) (S M : zz_St) (n ts : Nat) (tr : Nat → Nat) : Prop := ts ≤ z ∧ zz_ga M 11 n = nI ts ∧ (∀ i, i < ts → tr i < z ∧ zz_ga M 12 (1024 * n + i) = nI (tr i) ∧ zz_ga S 10 (tr i) = nI n ∧ zz_ga S 11 (tr i) = nI i) ∧ ∀ c, c < z → zz_ga S 10 c = nI n → ∃ i, i < ts ∧ tr i = c
def pr_G (z : Nat) (S M : zz_St) : Prop := ∀ n, n < 12 → (zz_ga S 22 n = 0 → ∀ c, c < z → zz_ga S 10 c = nI n → zz_ga S 9 c ≠ 0) ∧ (zz_ga S 22 n ≠ 0 → ∃ ts tr, pr_G1 z S M n ts tr)
def pr_R (W H D nn q : Nat) (pc : Nat → Nat) (pn : Nat → Nat → Nat) (k : Nat) (T : Nat → Prop) (S M : zz_St) : Prop := pz_siz W H D ∧ pr_A W H D nn S M ∧ pr_B (W * H * D) q S M ∧ pr_C S M ∧ pr_D nn pc S M ∧ pr_E (W * H * D) pc pn S M ∧ pr_F (W * H * D) nn pc pn k T S M ∧ pr_G (W * H * D) S M
def pr_t (z k ts : Nat) (tr : Nat → Nat) (S M : zz_St) : Prop := pz_tree z ts tr S ∧ zz_ga M 11 k = nI ts ∧ (∀ i, i < ts → zz_ga M 12 (1024 * k + i) = nI (tr i)) ∧ (∀ c, c < z → (zz_ga M 17 c = 0 ↔ ¬ pz_Tt ts tr c)) ∧ (∀ i j, i < ts → j < ts → tr i = tr j → i = j) ∧ zz_ga S 22 k = 0 ∧ zz_ga S 23 k = 0
noncomputable def pr_pm (pcn : Nat) (pnn : Nat → Nat) (ts : Nat) (tr : Nat → Nat) : Nat := pz_cnt (fun p => pz_memb tr ts (pnn p)) pcn
theorem pr_R_q {W H D nn q q' : Nat} {pc : Nat → Nat} {pn : Nat → Nat → Nat} {k : Nat} {T : Nat → Prop} {S M : zz_St} (h : pr_R W H D nn q pc pn k T S M) (hq : q ≤ q') : pr_R W H D nn q' pc pn k T S M := by
  obtain ⟨h0, h1, h2, h3⟩ := h
  refine ⟨h0, h1, fun c hc => ?_, h3⟩
  obtain ⟨a, b, x, hx, d⟩ := h2 c hc
  exact ⟨a, b, x, by omega, d⟩
theorem pr_R_c {W H D nn q : Nat} {pc : Nat → Nat} {pn : Nat → Nat → Nat} {k : Nat} {T : Nat → Prop} {S S' M : zz_St} (h : pr_R W H D nn q pc pn k T S M) (g0 : ∀ i, i ≤ 6 → zz_gi S' i = zz_gi S i) (g1 : zz_gl S' 0 = zz_gl S 0)
    (g2 : ∀ r, (8 ≤ r ∧ r ≤ 15) ∨ (21 ≤ r ∧ r ≤ 24) → zz_ga S' r = zz_ga S r) (g3 : zz_gA S' 12 = zz_gA S 12) (g4 : zz_gA S' 21 = zz_gA S 21) (g5 : ∀ n, zz_gp S' n = zz_gp S n) : pr_R W H D nn q pc pn k T S' M := by
  unfold pr_R pr_A pr_B pr_C pr_D pr_E pr_F pr_G pr_G1 pz_cgeo at *
  rw [g0 0 (by omega), g0 1 (by omega), g0 2 (by omega), g0 3 (by omega), g0 4 (by omega), g0 5 (by omega), g0 6 (by omega), g1, g2 8 (by omega), g2 9 (by omega), g2 10 (by omega), g2 11 (by omega), g2 13 (by omega), g2 14 (by omega), g2 15 (by omega), g2 21 (by omega), g2 22 (by omega), g2 23 (by omega), g2 24 (by omega), g3, g4]
  simp only [g5]
  exact h
theorem pr_R_m {W H D nn q : Nat} {pc : Nat → Nat} {pn : Nat → Nat → Nat} {k : Nat} {T : Nat → Prop} {S M M' : zz_St} (h : pr_R W H D nn q pc pn k T S M) (g0 : ∀ i, 1 ≤ i → zz_gi M' i = zz_gi M i) (g1 : zz_gl M' 0 = zz_gl M 0)
    (g2 : ∀ r, 1 ≤ r → r ≤ 15 → zz_ga M' r = zz_ga M r) (g3 : zz_gA M' 6 = zz_gA M 6) (g4 : zz_gA M' 13 = zz_gA M 13) : pr_R W H D nn q pc pn k T S M' := by
  unfold pr_R pr_A pr_B pr_C pr_D pr_E pr_F pr_G pr_G1 pz_mgeo at *
  rw [g0 1 (by omega), g0 2 (by omega), g0 3 (by omega), g0 4 (by omega), g0 5 (by omega), g1, g2 1 (by omega) (by omega), g2 2 (by omega) (by omega), g2 3 (by omega) (by omega), g2 4 (by omega) (by omega), g2 5 (by omega) (by omega), g2 7 (by omega) (by omega), g2 8 (by omega) (by omega), g2 9 (by omega) (by omega), g2 10 (by omega) (by omega), g2 11 (by omega) (by omega), g2 12 (by omega) (by omega), g2 14 (by omega) (by omega), g2 15 (by omega) (by omega), g3, g4]
  exact h
/-- what a search of net k stands in -/
def pr_e (k : Nat) (S : zz_St) : pz_Env := ((zz_ga S 8, zz_ga S 9, fun c => decide (zz_ga S 10 c ≠ -1 ∧ zz_ga S 10 c ≠ nI k)), (fun c => (zz_gA S 12 c).toInt.toNat), ((fun l => (zz_ga S 13 l).toNatClampNeg), (fun l => (zz_ga S 14 l).toNatClampNeg), (fun l => (zz_ga S 15 l).toNatClampNeg)))
theorem pr_e_fg {k : Nat} {S : zz_St} {c : Nat} : pe_fg (pr_e k S) c = true ↔ (zz_ga S 10 c ≠ -1 ∧ zz_ga S 10 c ≠ nI k) := by
  show decide (zz_ga S 10 c ≠ -1 ∧ zz_ga S 10 c ≠ nI k) = true ↔ _
  exact decide_eq_true_iff
theorem pr_hist {W H D nn q : Nat} {pc : Nat → Nat} {pn : Nat → Nat → Nat} {k : Nat} {T : Nat → Prop} {S M : zz_St} (h : pr_R W H D nn q pc pn k T S M) (hq : q ≤ 1000000000) {j c : Nat} (hc : c < (W * H * D)) : pe_hist (pr_e j S) c ≤ q ∧ zz_gA S 12 c = lN (pe_hist (pr_e j S) c) ∧ zz_gA M 6 c = lN (pe_hist (pr_e j S) c) := by
  obtain ⟨-, -, x, hx, h1, h2⟩ := h.2.2.1 c hc
  have e1 : pe_hist (pr_e j S) c = x := by
    show (zz_gA S 12 c).toInt.toNat = x
    rw [h1, pr_lNc (by omega)]
  rw [e1]
  exact ⟨hx, h1, h2⟩
theorem pr_lays {W H D nn q : Nat} {pc : Nat → Nat} {pn : Nat → Nat → Nat} {k : Nat} {T : Nat → Prop} {S M : zz_St} (h : pr_R W H D nn q pc pn k T S M) {j l : Nat} (hl : l < 4) : (pe_ac (pr_e j S) l ≤ 50 ∧ pe_via (pr_e j S) l ≤ 50 ∧ pe_nr (pr_e j S) l ≤ 50) ∧ (zz_ga S 13 l = nI (pe_ac (pr_e j S) l) ∧ zz_ga S 14 l = nI (pe_via (pr_e j S) l) ∧ zz_ga S 15 l = nI (pe_nr (pr_e j S) l)) ∧ zz_ga M 7 l = nI (pe_ac (pr_e j S) l) ∧ zz_ga M 8 l = nI (pe_via (pr_e j S) l) ∧ zz_ga M 9 l = nI (pe_nr (pr_e j S) l) := by
  obtain ⟨a, v, n, ⟨b1, b2, b3⟩, ⟨s1, s2, s3⟩, m1, m2, m3⟩ := h.2.2.2.1 l hl
  have e1 : pe_ac (pr_e j S) l = a := by
    show (zz_ga S 13 l).toNatClampNeg = a
    rw [s1, nI_clampI (by omega)]
  have e2 : pe_via (pr_e j S) l = v := by
    show (zz_ga S 14 l).toNatClampNeg = v
    rw [s2, nI_clampI (by omega)]
  have e3 : pe_nr (pr_e j S) l = n := by
    show (zz_ga S 15 l).toNatClampNeg = n
    rw [s3, nI_clampI (by omega)]
  rw [e1, e2, e3]
  exact ⟨⟨b1, b2, b3⟩, ⟨s1, s2, s3⟩, m1, m2, m3⟩
theorem pr_ev {W H D nn q : Nat} {pc : Nat → Nat} {pn : Nat → Nat → Nat} {k : Nat} {T : Nat → Prop} {S M : zz_St} (h : pr_R W H D nn q pc pn k T S M) (hq : q ≤ 1000000000) (j : Nat) : pz_ev W H D (pr_e j S) :=
  ⟨h.1, fun _ hl => (pr_lays h hl).1, fun _ hc => Nat.le_trans (pr_hist h hq hc).1 hq⟩
theorem pr_cenv {W H D nn q : Nat} {pc : Nat → Nat} {pn : Nat → Nat → Nat} {k : Nat} {T : Nat → Prop} {S M : zz_St} (h : pr_R W H D nn q pc pn k T S M) (hq : q ≤ 1000000000) (j : Nat) : pz_cenv W H D (pr_e j S) (nI j) S :=
  ⟨h.2.1.1, fun _ hc => ⟨rfl, rfl, pr_e_fg.symm, (pr_hist h hq hc).2.1⟩, fun _ hl => (pr_lays h hl).2.1⟩
theorem pr_menv {W H D nn q : Nat} {pc : Nat → Nat} {pn : Nat → Nat → Nat} {k : Nat} {T : Nat → Prop} {S M : zz_St} (h : pr_R W H D nn q pc pn k T S M) (hq : q ≤ 1000000000) : pz_menv W H D (pr_e k S) (nI k) M := by
  refine ⟨h.2.1.2.1, fun c hc => ⟨(h.2.2.1 c hc).1, (h.2.2.1 c hc).2.1, ?_, (pr_hist h hq hc).2.2⟩, fun _ hl => (pr_lays h hl).2.2⟩
  obtain ⟨f1, f2, -⟩ := h.2.2.2.2.2.2.1 c hc
  rw [pr_e_fg]
  by_cases ht : T c
  · obtain ⟨g1, g2⟩ := f2 ht
    rw [g1]
    constructor
    · intro hx; exact absurd rfl hx.2
    · rintro ⟨h1, h2⟩
      rcases g2 with g | g
      · exact absurd g h1
      · exact absurd g h2
  · rw [f1 ht]
/-- what is foreign is outside the tree -/
theorem pr_fgT {W H D nn q : Nat} {pc : Nat → Nat} {pn : Nat → Nat → Nat} {k : Nat} {T : Nat → Prop} {S M : zz_St} (h : pr_R W H D nn q pc pn k T S M) {c : Nat} (hc : c < (W * H * D)) (hf : pe_fg (pr_e k S) c = true) : ¬ T c ∧ zz_ga M 3 c = zz_ga S 10 c ∧ ∃ o, o < nn ∧ zz_ga S 10 c = nI o := by
  obtain ⟨f1, f2, f3, -⟩ := h.2.2.2.2.2.2.1 c hc
  obtain ⟨h1, h2⟩ := pr_e_fg.mp hf
  have hT : ¬ T c := by
    intro ht
    rcases (f2 ht).2 with g | g
    · exact absurd g h1
    · exact absurd g h2
  refine ⟨hT, f1 hT, ?_⟩
  rcases f3 with g | g
  · exact absurd g h1
  · exact g
theorem pr_rp_p {x : Int32} {n : Nat} {hol pin : Nat → Int32} {c : Nat} (h : pin c ≠ 0) : pz_rp x n hol pin c = hol c := by
  unfold pz_rp
  exact if_neg (fun q => h q.2.2.2)
theorem pr_rp_b {x : Int32} {n o : Nat} {hol pin : Nat → Int32} {c : Nat} (ho : o < 2147483648) (h : hol c = nI o) (hb : ¬ (o < n ∧ bt x o = true)) : pz_rp x n hol pin c = hol c := by
  unfold pz_rp
  refine if_neg (fun q => hb ?_)
  obtain ⟨-, q1, q2, -⟩ := q
  rw [h, nI_clampI ho] at q1 q2
  exact ⟨q1, q2⟩
theorem pr_rp_m {x : Int32} {n : Nat} {hol pin : Nat → Int32} {c : Nat} (h : hol c = -1) : pz_rp x n hol pin c = -1 := by
  unfold pz_rp
  rw [if_neg (fun q => q.1 h), h]
theorem pr_rp_y {x : Int32} {n o : Nat} {hol pin : Nat → Int32} {c : Nat} (ho : o < 2147483648) (h : hol c = nI o) (hn : o < n) (hb : bt x o = true) (hp : pin c = 0) : pz_rp x n hol pin c = -1 := by
  unfold pz_rp
  refine if_pos ⟨?_, ?_, ?_, hp⟩
  · rw [h]; intro q; have := pz_nm1 ho; rw [this] at q; exact q
  · rw [h, nI_clampI ho]; exact hn
  · rw [h, nI_clampI ho]; exact hb
theorem pr_rp_n {x : Int32} {n o : Nat} {hol pin : Nat → Int32} {c : Nat} (ho : o < 2147483648) (h : pz_rp x n hol pin c = nI o) : hol c = nI o ∧ (o < n → bt x o = true → pin c ≠ 0) := by
  unfold pz_rp at h
  split at h
  · have := pz_m1n ho
    rw [this] at h
    exact h.elim
  · rename_i hq
    refine ⟨h, fun h1 h2 h3 => hq ⟨?_, ?_, ?_, h3⟩⟩
    · rw [h]; intro q; have := pz_nm1 ho; rw [this] at q; exact q
    · rw [h, nI_clampI ho]; exact h1
    · rw [h, nI_clampI ho]; exact h2
theorem pr_rp_c {x : Int32} {n : Nat} {hol hol' pin pin' : Nat → Int32} {c : Nat} (h1 : hol' c = hol c) (h2 : pin' c = pin c) : pz_rp x n hol' pin' c = pz_rp x n hol pin c := by
  unfold pz_rp
  rw [h1, h2]

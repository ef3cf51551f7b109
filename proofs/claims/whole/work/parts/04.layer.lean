/-! THE LAYER: a method's walk over a world given as a list; 'zz_ww X n w pc lv st': from pc, with the cells w, the locals lv and the stack st, n cells and slots made so far, the machine comes to the method's end. The pure programs (Option-valued) carry guards; h : 'pure program = some r' is threaded through the walk. -/
abbrev zz_St : Type := (Nat → Int32) × (Nat → Int64) × (Nat → Nat → Int32) × (Nat → Nat → Int64) × (Nat → Nat → Int32)
def zz_gi (S : zz_St) (k : Nat) : Int32 := S.1 k
def zz_gl (S : zz_St) (k : Nat) : Int64 := S.2.1 k
def zz_ga (S : zz_St) (k : Nat) : Nat → Int32 := S.2.2.1 k
def zz_gA (S : zz_St) (k : Nat) : Nat → Int64 := S.2.2.2.1 k
def zz_gp (S : zz_St) (k : Nat) : Nat → Int32 := S.2.2.2.2 k
def zz_up {α : Type} (f : Nat → α) (k : Nat) (v : α) : Nat → α := fun j => if j = k then v else f j
def zz_si (S : zz_St) (k : Nat) (v : Int32) : zz_St := (zz_up S.1 k v, S.2.1, S.2.2.1, S.2.2.2.1, S.2.2.2.2)
def zz_sl (S : zz_St) (k : Nat) (v : Int64) : zz_St := (S.1, zz_up S.2.1 k v, S.2.2.1, S.2.2.2.1, S.2.2.2.2)
def zz_sa (S : zz_St) (k : Nat) (v : Nat → Int32) : zz_St := (S.1, S.2.1, zz_up S.2.2.1 k v, S.2.2.2.1, S.2.2.2.2)
def zz_sA (S : zz_St) (k : Nat) (v : Nat → Int64) : zz_St := (S.1, S.2.1, S.2.2.1, zz_up S.2.2.2.1 k v, S.2.2.2.2)
def zz_sp (S : zz_St) (k : Nat) (v : Nat → Int32) : zz_St := (S.1, S.2.1, S.2.2.1, S.2.2.2.1, zz_up S.2.2.2.2 k v)
/-- pure programs -/
def zz_in (i : Int32) (n : Nat) : Bool := !(decide (i < 0)) && !(decide (n ≤ i.toNatClampNeg))
def zz_gd {α : Type} (b : Bool) (k : Option α) : Option α := if b = true then k else none
def zz_let {α β : Type} (x : α) (k : α → Option β) : Option β := k x
def zz_b1 {α β : Type} (x : Option α) (k : α → Option β) : Option β := match x with
  | some v => k v
  | none => none
def zz_b2 {α σ β : Type} (x : Option (α × σ)) (k : α → σ → Option β) : Option β := match x with
  | some v => k v.1 v.2
  | none => none
theorem zz_gd_some {α : Type} {b : Bool} {k : Option α} {r : α} (h : zz_gd b k = some r) : b = true ∧ k = some r := by
  unfold zz_gd at h
  split at h
  · exact ⟨by assumption, h⟩
  · cases h
theorem zz_b1_some {α β : Type} {x : Option α} {k : α → Option β} {r : β} (h : zz_b1 x k = some r) : ∃ v, x = some v ∧ k v = some r := by
  cases x with
  | none => cases h
  | some v => exact ⟨v, rfl, h⟩
theorem zz_b2_some {α σ β : Type} {x : Option (α × σ)} {k : α → σ → Option β} {r : β} (h : zz_b2 x k = some r) : ∃ v u, x = some (v, u) ∧ k v u = some r := by
  cases x with
  | none => cases h
  | some v => exact ⟨v.1, v.2, rfl, h⟩
theorem zz_in_vp {i : Int32} {n : Nat} (h : zz_in i n = true) : vp_in i n := by
  unfold zz_in at h
  simp only [Bool.and_eq_true, Bool.not_eq_true', decide_eq_false_iff_not] at h
  intro q
  rcases q with q | q
  · exact h.1 q
  · exact h.2 q

def zz_fix1 {A0 α : Type} (F : (A0 → Option α) → A0 → Option α) : Nat → A0 → Option α
  | 0, _ => none
  | k + 1, x0 => F (zz_fix1 F k) x0
theorem zz_fix1_W {A0 α : Type} {F : (A0 → Option α) → A0 → Option α} {r : α} (P : A0 → Prop) (hb : ∀ rc : A0 → Option α, (∀ (x0 : A0), rc x0 = some r → P x0) → ∀ (x0 : A0), F rc x0 = some r → P x0) (k : Nat) (x0 : A0) (h : zz_fix1 F k x0 = some r) : P x0 := by
  induction k generalizing x0 with
  | zero => cases h
  | succ k ih => exact hb _ (fun x0 h => ih x0 h) x0 h
def zz_jn1 {A0 α : Type} (J : A0 → Option α) (b : (A0 → Option α) → Option α) : Option α := b J
theorem zz_jn1_W {A0 α : Type} {J : A0 → Option α} {b : (A0 → Option α) → Option α} {r : α} {G : Prop} (h : zz_jn1 J b = some r) (P : A0 → Prop) (hJ : ∀ (x0 : A0), J x0 = some r → P x0) (hb : ∀ j : A0 → Option α, (∀ (x0 : A0), j x0 = some r → P x0) → b j = some r → G) : G := hb J hJ h
def zz_fix2 {A0 A1 α : Type} (F : (A0 → A1 → Option α) → A0 → A1 → Option α) : Nat → A0 → A1 → Option α
  | 0, _, _ => none
  | k + 1, x0, x1 => F (zz_fix2 F k) x0 x1
theorem zz_fix2_W {A0 A1 α : Type} {F : (A0 → A1 → Option α) → A0 → A1 → Option α} {r : α} (P : A0 → A1 → Prop) (hb : ∀ rc : A0 → A1 → Option α, (∀ (x0 : A0) (x1 : A1), rc x0 x1 = some r → P x0 x1) → ∀ (x0 : A0) (x1 : A1), F rc x0 x1 = some r → P x0 x1) (k : Nat) (x0 : A0) (x1 : A1) (h : zz_fix2 F k x0 x1 = some r) : P x0 x1 := by
  induction k generalizing x0 x1 with
  | zero => cases h
  | succ k ih => exact hb _ (fun x0 x1 h => ih x0 x1 h) x0 x1 h
def zz_jn2 {A0 A1 α : Type} (J : A0 → A1 → Option α) (b : (A0 → A1 → Option α) → Option α) : Option α := b J
theorem zz_jn2_W {A0 A1 α : Type} {J : A0 → A1 → Option α} {b : (A0 → A1 → Option α) → Option α} {r : α} {G : Prop} (h : zz_jn2 J b = some r) (P : A0 → A1 → Prop) (hJ : ∀ (x0 : A0) (x1 : A1), J x0 x1 = some r → P x0 x1) (hb : ∀ j : A0 → A1 → Option α, (∀ (x0 : A0) (x1 : A1), j x0 x1 = some r → P x0 x1) → b j = some r → G) : G := hb J hJ h
def zz_fix3 {A0 A1 A2 α : Type} (F : (A0 → A1 → A2 → Option α) → A0 → A1 → A2 → Option α) : Nat → A0 → A1 → A2 → Option α
  | 0, _, _, _ => none
  | k + 1, x0, x1, x2 => F (zz_fix3 F k) x0 x1 x2
theorem zz_fix3_W {A0 A1 A2 α : Type} {F : (A0 → A1 → A2 → Option α) → A0 → A1 → A2 → Option α} {r : α} (P : A0 → A1 → A2 → Prop) (hb : ∀ rc : A0 → A1 → A2 → Option α, (∀ (x0 : A0) (x1 : A1) (x2 : A2), rc x0 x1 x2 = some r → P x0 x1 x2) → ∀ (x0 : A0) (x1 : A1) (x2 : A2), F rc x0 x1 x2 = some r → P x0 x1 x2) (k : Nat) (x0 : A0) (x1 : A1) (x2 : A2) (h : zz_fix3 F k x0 x1 x2 = some r) : P x0 x1 x2 := by
  induction k generalizing x0 x1 x2 with
  | zero => cases h
  | succ k ih => exact hb _ (fun x0 x1 x2 h => ih x0 x1 x2 h) x0 x1 x2 h
def zz_jn3 {A0 A1 A2 α : Type} (J : A0 → A1 → A2 → Option α) (b : (A0 → A1 → A2 → Option α) → Option α) : Option α := b J
theorem zz_jn3_W {A0 A1 A2 α : Type} {J : A0 → A1 → A2 → Option α} {b : (A0 → A1 → A2 → Option α) → Option α} {r : α} {G : Prop} (h : zz_jn3 J b = some r) (P : A0 → A1 → A2 → Prop) (hJ : ∀ (x0 : A0) (x1 : A1) (x2 : A2), J x0 x1 x2 = some r → P x0 x1 x2) (hb : ∀ j : A0 → A1 → A2 → Option α, (∀ (x0 : A0) (x1 : A1) (x2 : A2), j x0 x1 x2 = some r → P x0 x1 x2) → b j = some r → G) : G := hb J hJ h
def zz_fix4 {A0 A1 A2 A3 α : Type} (F : (A0 → A1 → A2 → A3 → Option α) → A0 → A1 → A2 → A3 → Option α) : Nat → A0 → A1 → A2 → A3 → Option α
  | 0, _, _, _, _ => none
  | k + 1, x0, x1, x2, x3 => F (zz_fix4 F k) x0 x1 x2 x3
theorem zz_fix4_W {A0 A1 A2 A3 α : Type} {F : (A0 → A1 → A2 → A3 → Option α) → A0 → A1 → A2 → A3 → Option α} {r : α} (P : A0 → A1 → A2 → A3 → Prop) (hb : ∀ rc : A0 → A1 → A2 → A3 → Option α, (∀ (x0 : A0) (x1 : A1) (x2 : A2) (x3 : A3), rc x0 x1 x2 x3 = some r → P x0 x1 x2 x3) → ∀ (x0 : A0) (x1 : A1) (x2 : A2) (x3 : A3), F rc x0 x1 x2 x3 = some r → P x0 x1 x2 x3) (k : Nat) (x0 : A0) (x1 : A1) (x2 : A2) (x3 : A3) (h : zz_fix4 F k x0 x1 x2 x3 = some r) : P x0 x1 x2 x3 := by
  induction k generalizing x0 x1 x2 x3 with
  | zero => cases h
  | succ k ih => exact hb _ (fun x0 x1 x2 x3 h => ih x0 x1 x2 x3 h) x0 x1 x2 x3 h
def zz_jn4 {A0 A1 A2 A3 α : Type} (J : A0 → A1 → A2 → A3 → Option α) (b : (A0 → A1 → A2 → A3 → Option α) → Option α) : Option α := b J
theorem zz_jn4_W {A0 A1 A2 A3 α : Type} {J : A0 → A1 → A2 → A3 → Option α} {b : (A0 → A1 → A2 → A3 → Option α) → Option α} {r : α} {G : Prop} (h : zz_jn4 J b = some r) (P : A0 → A1 → A2 → A3 → Prop) (hJ : ∀ (x0 : A0) (x1 : A1) (x2 : A2) (x3 : A3), J x0 x1 x2 x3 = some r → P x0 x1 x2 x3) (hb : ∀ j : A0 → A1 → A2 → A3 → Option α, (∀ (x0 : A0) (x1 : A1) (x2 : A2) (x3 : A3), j x0 x1 x2 x3 = some r → P x0 x1 x2 x3) → b j = some r → G) : G := hb J hJ h
def zz_fix5 {A0 A1 A2 A3 A4 α : Type} (F : (A0 → A1 → A2 → A3 → A4 → Option α) → A0 → A1 → A2 → A3 → A4 → Option α) : Nat → A0 → A1 → A2 → A3 → A4 → Option α
  | 0, _, _, _, _, _ => none
  | k + 1, x0, x1, x2, x3, x4 => F (zz_fix5 F k) x0 x1 x2 x3 x4
theorem zz_fix5_W {A0 A1 A2 A3 A4 α : Type} {F : (A0 → A1 → A2 → A3 → A4 → Option α) → A0 → A1 → A2 → A3 → A4 → Option α} {r : α} (P : A0 → A1 → A2 → A3 → A4 → Prop) (hb : ∀ rc : A0 → A1 → A2 → A3 → A4 → Option α, (∀ (x0 : A0) (x1 : A1) (x2 : A2) (x3 : A3) (x4 : A4), rc x0 x1 x2 x3 x4 = some r → P x0 x1 x2 x3 x4) → ∀ (x0 : A0) (x1 : A1) (x2 : A2) (x3 : A3) (x4 : A4), F rc x0 x1 x2 x3 x4 = some r → P x0 x1 x2 x3 x4) (k : Nat) (x0 : A0) (x1 : A1) (x2 : A2) (x3 : A3) (x4 : A4) (h : zz_fix5 F k x0 x1 x2 x3 x4 = some r) : P x0 x1 x2 x3 x4 := by
  induction k generalizing x0 x1 x2 x3 x4 with
  | zero => cases h
  | succ k ih => exact hb _ (fun x0 x1 x2 x3 x4 h => ih x0 x1 x2 x3 x4 h) x0 x1 x2 x3 x4 h
def zz_jn5 {A0 A1 A2 A3 A4 α : Type} (J : A0 → A1 → A2 → A3 → A4 → Option α) (b : (A0 → A1 → A2 → A3 → A4 → Option α) → Option α) : Option α := b J
theorem zz_jn5_W {A0 A1 A2 A3 A4 α : Type} {J : A0 → A1 → A2 → A3 → A4 → Option α} {b : (A0 → A1 → A2 → A3 → A4 → Option α) → Option α} {r : α} {G : Prop} (h : zz_jn5 J b = some r) (P : A0 → A1 → A2 → A3 → A4 → Prop) (hJ : ∀ (x0 : A0) (x1 : A1) (x2 : A2) (x3 : A3) (x4 : A4), J x0 x1 x2 x3 x4 = some r → P x0 x1 x2 x3 x4) (hb : ∀ j : A0 → A1 → A2 → A3 → A4 → Option α, (∀ (x0 : A0) (x1 : A1) (x2 : A2) (x3 : A3) (x4 : A4), j x0 x1 x2 x3 x4 = some r → P x0 x1 x2 x3 x4) → b j = some r → G) : G := hb J hJ h
def zz_fix6 {A0 A1 A2 A3 A4 A5 α : Type} (F : (A0 → A1 → A2 → A3 → A4 → A5 → Option α) → A0 → A1 → A2 → A3 → A4 → A5 → Option α) : Nat → A0 → A1 → A2 → A3 → A4 → A5 → Option α
  | 0, _, _, _, _, _, _ => none
  | k + 1, x0, x1, x2, x3, x4, x5 => F (zz_fix6 F k) x0 x1 x2 x3 x4 x5
theorem zz_fix6_W {A0 A1 A2 A3 A4 A5 α : Type} {F : (A0 → A1 → A2 → A3 → A4 → A5 → Option α) → A0 → A1 → A2 → A3 → A4 → A5 → Option α} {r : α} (P : A0 → A1 → A2 → A3 → A4 → A5 → Prop) (hb : ∀ rc : A0 → A1 → A2 → A3 → A4 → A5 → Option α, (∀ (x0 : A0) (x1 : A1) (x2 : A2) (x3 : A3) (x4 : A4) (x5 : A5), rc x0 x1 x2 x3 x4 x5 = some r → P x0 x1 x2 x3 x4 x5) → ∀ (x0 : A0) (x1 : A1) (x2 : A2) (x3 : A3) (x4 : A4) (x5 : A5), F rc x0 x1 x2 x3 x4 x5 = some r → P x0 x1 x2 x3 x4 x5) (k : Nat) (x0 : A0) (x1 : A1) (x2 : A2) (x3 : A3) (x4 : A4) (x5 : A5) (h : zz_fix6 F k x0 x1 x2 x3 x4 x5 = some r) : P x0 x1 x2 x3 x4 x5 := by
  induction k generalizing x0 x1 x2 x3 x4 x5 with
  | zero => cases h
  | succ k ih => exact hb _ (fun x0 x1 x2 x3 x4 x5 h => ih x0 x1 x2 x3 x4 x5 h) x0 x1 x2 x3 x4 x5 h
def zz_jn6 {A0 A1 A2 A3 A4 A5 α : Type} (J : A0 → A1 → A2 → A3 → A4 → A5 → Option α) (b : (A0 → A1 → A2 → A3 → A4 → A5 → Option α) → Option α) : Option α := b J
theorem zz_jn6_W {A0 A1 A2 A3 A4 A5 α : Type} {J : A0 → A1 → A2 → A3 → A4 → A5 → Option α} {b : (A0 → A1 → A2 → A3 → A4 → A5 → Option α) → Option α} {r : α} {G : Prop} (h : zz_jn6 J b = some r) (P : A0 → A1 → A2 → A3 → A4 → A5 → Prop) (hJ : ∀ (x0 : A0) (x1 : A1) (x2 : A2) (x3 : A3) (x4 : A4) (x5 : A5), J x0 x1 x2 x3 x4 x5 = some r → P x0 x1 x2 x3 x4 x5) (hb : ∀ j : A0 → A1 → A2 → A3 → A4 → A5 → Option α, (∀ (x0 : A0) (x1 : A1) (x2 : A2) (x3 : A3) (x4 : A4) (x5 : A5), j x0 x1 x2 x3 x4 x5 = some r → P x0 x1 x2 x3 x4 x5) → b j = some r → G) : G := hb J hJ h
def zz_fix7 {A0 A1 A2 A3 A4 A5 A6 α : Type} (F : (A0 → A1 → A2 → A3 → A4 → A5 → A6 → Option α) → A0 → A1 → A2 → A3 → A4 → A5 → A6 → Option α) : Nat → A0 → A1 → A2 → A3 → A4 → A5 → A6 → Option α
  | 0, _, _, _, _, _, _, _ => none
  | k + 1, x0, x1, x2, x3, x4, x5, x6 => F (zz_fix7 F k) x0 x1 x2 x3 x4 x5 x6
theorem zz_fix7_W {A0 A1 A2 A3 A4 A5 A6 α : Type} {F : (A0 → A1 → A2 → A3 → A4 → A5 → A6 → Option α) → A0 → A1 → A2 → A3 → A4 → A5 → A6 → Option α} {r : α} (P : A0 → A1 → A2 → A3 → A4 → A5 → A6 → Prop) (hb : ∀ rc : A0 → A1 → A2 → A3 → A4 → A5 → A6 → Option α, (∀ (x0 : A0) (x1 : A1) (x2 : A2) (x3 : A3) (x4 : A4) (x5 : A5) (x6 : A6), rc x0 x1 x2 x3 x4 x5 x6 = some r → P x0 x1 x2 x3 x4 x5 x6) → ∀ (x0 : A0) (x1 : A1) (x2 : A2) (x3 : A3) (x4 : A4) (x5 : A5) (x6 : A6), F rc x0 x1 x2 x3 x4 x5 x6 = some r → P x0 x1 x2 x3 x4 x5 x6) (k : Nat) (x0 : A0) (x1 : A1) (x2 : A2) (x3 : A3) (x4 : A4) (x5 : A5) (x6 : A6) (h : zz_fix7 F k x0 x1 x2 x3 x4 x5 x6 = some r) : P x0 x1 x2 x3 x4 x5 x6 := by
  induction k generalizing x0 x1 x2 x3 x4 x5 x6 with
  | zero => cases h
  | succ k ih => exact hb _ (fun x0 x1 x2 x3 x4 x5 x6 h => ih x0 x1 x2 x3 x4 x5 x6 h) x0 x1 x2 x3 x4 x5 x6 h
def zz_jn7 {A0 A1 A2 A3 A4 A5 A6 α : Type} (J : A0 → A1 → A2 → A3 → A4 → A5 → A6 → Option α) (b : (A0 → A1 → A2 → A3 → A4 → A5 → A6 → Option α) → Option α) : Option α := b J
theorem zz_jn7_W {A0 A1 A2 A3 A4 A5 A6 α : Type} {J : A0 → A1 → A2 → A3 → A4 → A5 → A6 → Option α} {b : (A0 → A1 → A2 → A3 → A4 → A5 → A6 → Option α) → Option α} {r : α} {G : Prop} (h : zz_jn7 J b = some r) (P : A0 → A1 → A2 → A3 → A4 → A5 → A6 → Prop) (hJ : ∀ (x0 : A0) (x1 : A1) (x2 : A2) (x3 : A3) (x4 : A4) (x5 : A5) (x6 : A6), J x0 x1 x2 x3 x4 x5 x6 = some r → P x0 x1 x2 x3 x4 x5 x6) (hb : ∀ j : A0 → A1 → A2 → A3 → A4 → A5 → A6 → Option α, (∀ (x0 : A0) (x1 : A1) (x2 : A2) (x3 : A3) (x4 : A4) (x5 : A5) (x6 : A6), j x0 x1 x2 x3 x4 x5 x6 = some r → P x0 x1 x2 x3 x4 x5 x6) → b j = some r → G) : G := hb J hJ h
def zz_fix8 {A0 A1 A2 A3 A4 A5 A6 A7 α : Type} (F : (A0 → A1 → A2 → A3 → A4 → A5 → A6 → A7 → Option α) → A0 → A1 → A2 → A3 → A4 → A5 → A6 → A7 → Option α) : Nat → A0 → A1 → A2 → A3 → A4 → A5 → A6 → A7 → Option α
  | 0, _, _, _, _, _, _, _, _ => none
  | k + 1, x0, x1, x2, x3, x4, x5, x6, x7 => F (zz_fix8 F k) x0 x1 x2 x3 x4 x5 x6 x7
theorem zz_fix8_W {A0 A1 A2 A3 A4 A5 A6 A7 α : Type} {F : (A0 → A1 → A2 → A3 → A4 → A5 → A6 → A7 → Option α) → A0 → A1 → A2 → A3 → A4 → A5 → A6 → A7 → Option α} {r : α} (P : A0 → A1 → A2 → A3 → A4 → A5 → A6 → A7 → Prop) (hb : ∀ rc : A0 → A1 → A2 → A3 → A4 → A5 → A6 → A7 → Option α, (∀ (x0 : A0) (x1 : A1) (x2 : A2) (x3 : A3) (x4 : A4) (x5 : A5) (x6 : A6) (x7 : A7), rc x0 x1 x2 x3 x4 x5 x6 x7 = some r → P x0 x1 x2 x3 x4 x5 x6 x7) → ∀ (x0 : A0) (x1 : A1) (x2 : A2) (x3 : A3) (x4 : A4) (x5 : A5) (x6 : A6) (x7 : A7), F rc x0 x1 x2 x3 x4 x5 x6 x7 = some r → P x0 x1 x2 x3 x4 x5 x6 x7) (k : Nat) (x0 : A0) (x1 : A1) (x2 : A2) (x3 : A3) (x4 : A4) (x5 : A5) (x6 : A6) (x7 : A7) (h : zz_fix8 F k x0 x1 x2 x3 x4 x5 x6 x7 = some r) : P x0 x1 x2 x3 x4 x5 x6 x7 := by
  induction k generalizing x0 x1 x2 x3 x4 x5 x6 x7 with
  | zero => cases h
  | succ k ih => exact hb _ (fun x0 x1 x2 x3 x4 x5 x6 x7 h => ih x0 x1 x2 x3 x4 x5 x6 x7 h) x0 x1 x2 x3 x4 x5 x6 x7 h
def zz_jn8 {A0 A1 A2 A3 A4 A5 A6 A7 α : Type} (J : A0 → A1 → A2 → A3 → A4 → A5 → A6 → A7 → Option α) (b : (A0 → A1 → A2 → A3 → A4 → A5 → A6 → A7 → Option α) → Option α) : Option α := b J
theorem zz_jn8_W {A0 A1 A2 A3 A4 A5 A6 A7 α : Type} {J : A0 → A1 → A2 → A3 → A4 → A5 → A6 → A7 → Option α} {b : (A0 → A1 → A2 → A3 → A4 → A5 → A6 → A7 → Option α) → Option α} {r : α} {G : Prop} (h : zz_jn8 J b = some r) (P : A0 → A1 → A2 → A3 → A4 → A5 → A6 → A7 → Prop) (hJ : ∀ (x0 : A0) (x1 : A1) (x2 : A2) (x3 : A3) (x4 : A4) (x5 : A5) (x6 : A6) (x7 : A7), J x0 x1 x2 x3 x4 x5 x6 x7 = some r → P x0 x1 x2 x3 x4 x5 x6 x7) (hb : ∀ j : A0 → A1 → A2 → A3 → A4 → A5 → A6 → A7 → Option α, (∀ (x0 : A0) (x1 : A1) (x2 : A2) (x3 : A3) (x4 : A4) (x5 : A5) (x6 : A6) (x7 : A7), j x0 x1 x2 x3 x4 x5 x6 x7 = some r → P x0 x1 x2 x3 x4 x5 x6 x7) → b j = some r → G) : G := hb J hJ h
def zz_fix9 {A0 A1 A2 A3 A4 A5 A6 A7 A8 α : Type} (F : (A0 → A1 → A2 → A3 → A4 → A5 → A6 → A7 → A8 → Option α) → A0 → A1 → A2 → A3 → A4 → A5 → A6 → A7 → A8 → Option α) : Nat → A0 → A1 → A2 → A3 → A4 → A5 → A6 → A7 → A8 → Option α
  | 0, _, _, _, _, _, _, _, _, _ => none
  | k + 1, x0, x1, x2, x3, x4, x5, x6, x7, x8 => F (zz_fix9 F k) x0 x1 x2 x3 x4 x5 x6 x7 x8
theorem zz_fix9_W {A0 A1 A2 A3 A4 A5 A6 A7 A8 α : Type} {F : (A0 → A1 → A2 → A3 → A4 → A5 → A6 → A7 → A8 → Option α) → A0 → A1 → A2 → A3 → A4 → A5 → A6 → A7 → A8 → Option α} {r : α} (P : A0 → A1 → A2 → A3 → A4 → A5 → A6 → A7 → A8 → Prop) (hb : ∀ rc : A0 → A1 → A2 → A3 → A4 → A5 → A6 → A7 → A8 → Option α, (∀ (x0 : A0) (x1 : A1) (x2 : A2) (x3 : A3) (x4 : A4) (x5 : A5) (x6 : A6) (x7 : A7) (x8 : A8), rc x0 x1 x2 x3 x4 x5 x6 x7 x8 = some r → P x0 x1 x2 x3 x4 x5 x6 x7 x8) → ∀ (x0 : A0) (x1 : A1) (x2 : A2) (x3 : A3) (x4 : A4) (x5 : A5) (x6 : A6) (x7 : A7) (x8 : A8), F rc x0 x1 x2 x3 x4 x5 x6 x7 x8 = some r → P x0 x1 x2 x3 x4 x5 x6 x7 x8) (k : Nat) (x0 : A0) (x1 : A1) (x2 : A2) (x3 : A3) (x4 : A4) (x5 : A5) (x6 : A6) (x7 : A7) (x8 : A8) (h : zz_fix9 F k x0 x1 x2 x3 x4 x5 x6 x7 x8 = some r) : P x0 x1 x2 x3 x4 x5 x6 x7 x8 := by
  induction k generalizing x0 x1 x2 x3 x4 x5 x6 x7 x8 with
  | zero => cases h
  | succ k ih => exact hb _ (fun x0 x1 x2 x3 x4 x5 x6 x7 x8 h => ih x0 x1 x2 x3 x4 x5 x6 x7 x8 h) x0 x1 x2 x3 x4 x5 x6 x7 x8 h
def zz_jn9 {A0 A1 A2 A3 A4 A5 A6 A7 A8 α : Type} (J : A0 → A1 → A2 → A3 → A4 → A5 → A6 → A7 → A8 → Option α) (b : (A0 → A1 → A2 → A3 → A4 → A5 → A6 → A7 → A8 → Option α) → Option α) : Option α := b J
theorem zz_jn9_W {A0 A1 A2 A3 A4 A5 A6 A7 A8 α : Type} {J : A0 → A1 → A2 → A3 → A4 → A5 → A6 → A7 → A8 → Option α} {b : (A0 → A1 → A2 → A3 → A4 → A5 → A6 → A7 → A8 → Option α) → Option α} {r : α} {G : Prop} (h : zz_jn9 J b = some r) (P : A0 → A1 → A2 → A3 → A4 → A5 → A6 → A7 → A8 → Prop) (hJ : ∀ (x0 : A0) (x1 : A1) (x2 : A2) (x3 : A3) (x4 : A4) (x5 : A5) (x6 : A6) (x7 : A7) (x8 : A8), J x0 x1 x2 x3 x4 x5 x6 x7 x8 = some r → P x0 x1 x2 x3 x4 x5 x6 x7 x8) (hb : ∀ j : A0 → A1 → A2 → A3 → A4 → A5 → A6 → A7 → A8 → Option α, (∀ (x0 : A0) (x1 : A1) (x2 : A2) (x3 : A3) (x4 : A4) (x5 : A5) (x6 : A6) (x7 : A7) (x8 : A8), j x0 x1 x2 x3 x4 x5 x6 x7 x8 = some r → P x0 x1 x2 x3 x4 x5 x6 x7 x8) → b j = some r → G) : G := hb J hJ h
abbrev zz_X : Type := Program × Launch × Env × Room × State × MethodId × Array Value × List Frame × Method × Code × va_G × (Nat → Prop) × Nat × (State → Prop)
abbrev zz_cl : List vw_C := [(RX0, TX0, 4), (RX1, TX1, 10), (RX2, TX2, 6), (RX3, TX3, 3), (RX4, TX4, 5), (RX5, TX5, 2), (RX6, TX6, 9), (RX7, TX7, 25)]
abbrev zz_tys (k : Nat → ClassId) : List (ClassId × FieldType) := [(k 0, .int), (k 1, .long), (k 2, .boolean), (k 3, .object "GridRipUp$Net")]
def zz_ok (X : zz_X) (cc : ByteArray) (own : String) (Ts : List Cond) (k : Nat → ClassId) (nL : Nat) (R : Room) : Prop := match X with
  | (p, _, _, R0, s, m, args, _, meth, c, D, A, nL0, _) => p.tables.exec = Jvm.exec ∧ c.code = cc ∧ c.maxLocals = nL ∧ s.vm.findClass own = some m.cls ∧ (∀ w ∈ Ts, w.before args s = true) ∧ va_K D zz_cl (zz_tys k) s ∧ (∀ q, s.heap.size ≤ q → A q) ∧ meth.locks = false ∧ nL0 = nL ∧ R0 = R
def zz_ww (X : zz_X) (n : Nat × Nat) (w : va_W) (pc : Nat) (lv : List (Nat × Value)) (st : List Value) : Prop := match X with
  | (p, l, e, R, s, m, args, below, meth, c, D, A, nL, Q) => ∀ (H : Heap) (locs : List Loc) (ls : Array Slot), va_P D zz_cl w H → va_D A w → va_S A s.heap H locs → lv_has ls nL lv → W p l e R s m args below meth c H locs n.1 n.2 Q (F0 m pc ls st)
section ZR
variable {X : zz_X} {cc : ByteArray} {own : String} {Ts : List Cond} {k : Nat → ClassId} {nL : Nat} {R : Room} {n : Nat × Nat} {w w' : va_W} {pc pc' : Nat} {lv lv' : List (Nat × Value)} {st : List Value} {α : Type} {r : α}
theorem zr_ic (C : zz_ok X cc own Ts k nL R) {i : Int} {v : Int32} (hd : decode cc pc = .ok (.iconst i, 1)) (hv : Int32.ofInt i = v) (hp : pc + 1 = pc') (h : zz_ww X n w pc' lv (.int v :: st)) : zz_ww X n w pc lv st := by
  subst hp
  obtain ⟨p, l, e, R0, s, m, args, below, meth, c, D, A, nL0, Q⟩ := X
  obtain ⟨hx, hb, hml, hown, hts, hK, hA, hlk, en, eR⟩ := C
  subst en eR
  intro H locs ls hP hD hS hl
  exact lv_iconst hx hb hd hv (h H locs ls hP hD hS hl)
theorem zr_bi (C : zz_ok X cc own Ts k nL R) {i : Int} {v : Int32} (hd : decode cc pc = .ok (.bipush i, 2)) (hv : (Int8.ofInt i).toInt32 = v) (hp : pc + 2 = pc') (h : zz_ww X n w pc' lv (.int v :: st)) : zz_ww X n w pc lv st := by
  subst hp
  obtain ⟨p, l, e, R0, s, m, args, below, meth, c, D, A, nL0, Q⟩ := X
  obtain ⟨hx, hb, hml, hown, hts, hK, hA, hlk, en, eR⟩ := C
  subst en eR
  intro H locs ls hP hD hS hl
  exact lv_bipush hx hb hd hv (h H locs ls hP hD hS hl)
theorem zr_si (C : zz_ok X cc own Ts k nL R) {i : Int} {v : Int32} (hd : decode cc pc = .ok (.sipush i, 3)) (hv : (Int16.ofInt i).toInt32 = v) (hp : pc + 3 = pc') (h : zz_ww X n w pc' lv (.int v :: st)) : zz_ww X n w pc lv st := by
  subst hp
  obtain ⟨p, l, e, R0, s, m, args, below, meth, c, D, A, nL0, Q⟩ := X
  obtain ⟨hx, hb, hml, hown, hts, hK, hA, hlk, en, eR⟩ := C
  subst en eR
  intro H locs ls hP hD hS hl
  exact lv_sipush hx hb hd hv (h H locs ls hP hD hS hl)
theorem zr_lc (C : zz_ok X cc own Ts k nL R) {i : Fin 2} {v : Int64} (hd : decode cc pc = .ok (.lconst i, 1)) (hv : Int64.ofNat (i : Nat) = v) (hp : pc + 1 = pc') (h : zz_ww X n w pc' lv (.long v :: st)) : zz_ww X n w pc lv st := by
  subst hp
  obtain ⟨p, l, e, R0, s, m, args, below, meth, c, D, A, nL0, Q⟩ := X
  obtain ⟨hx, hb, hml, hown, hts, hK, hA, hlk, en, eR⟩ := C
  subst en eR
  intro H locs ls hP hD hS hl
  exact lv_lconst hx hb hd hv (h H locs ls hP hD hS hl)
theorem zr_ldc (C : zz_ok X cc own Ts k nL R) {i : Nat} {v : Int32} (hd : decode cc pc = .ok (.ldc i, 2)) (hm : Jvm.Cond.constant own i v ∈ Ts) (hp : pc + 2 = pc') (h : zz_ww X n w pc' lv (.int v :: st)) : zz_ww X n w pc lv st := by
  subst hp
  obtain ⟨p, l, e, R0, s, m, args, below, meth, c, D, A, nL0, Q⟩ := X
  obtain ⟨hx, hb, hml, hown, hts, hK, hA, hlk, en, eR⟩ := C
  subst en eR
  intro H locs ls hP hD hS hl
  exact lv_ldc hx hb hown (hts _ hm) hd (h H locs ls hP hD hS hl)
theorem zr_ldcw (C : zz_ok X cc own Ts k nL R) {i : Nat} {v : Int32} (hd : decode cc pc = .ok (.ldc_w i, 3)) (hm : Jvm.Cond.constant own i v ∈ Ts) (hp : pc + 3 = pc') (h : zz_ww X n w pc' lv (.int v :: st)) : zz_ww X n w pc lv st := by
  subst hp
  obtain ⟨p, l, e, R0, s, m, args, below, meth, c, D, A, nL0, Q⟩ := X
  obtain ⟨hx, hb, hml, hown, hts, hK, hA, hlk, en, eR⟩ := C
  subst en eR
  intro H locs ls hP hD hS hl
  exact lv_ldcw hx hb hown (hts _ hm) hd (h H locs ls hP hD hS hl)
theorem zr_ldc2 (C : zz_ok X cc own Ts k nL R) {i : Nat} {v : Int64} (hd : decode cc pc = .ok (.ldc2_w i, 3)) (hm : Jvm.Cond.constantLong own i v ∈ Ts) (hp : pc + 3 = pc') (h : zz_ww X n w pc' lv (.long v :: st)) : zz_ww X n w pc lv st := by
  subst hp
  obtain ⟨p, l, e, R0, s, m, args, below, meth, c, D, A, nL0, Q⟩ := X
  obtain ⟨hx, hb, hml, hown, hts, hK, hA, hlk, en, eR⟩ := C
  subst en eR
  intro H locs ls hP hD hS hl
  exact lv_ldc2 hx hb hown (hts _ hm) hd (h H locs ls hP hD hS hl)
theorem zr_iln (C : zz_ok X cc own Ts k nL R) (j : Nat) {q : Fin 4} {i : Nat} {x : Int32} (hd : decode cc pc = .ok (.iload_n q, 1)) (hi : (q : Nat) = i) (hj : lv[j]? = some (i, .int x)) (hp : pc + 1 = pc') (h : zz_ww X n w pc' lv (.int x :: st)) : zz_ww X n w pc lv st := by
  subst hp
  obtain ⟨p, l, e, R0, s, m, args, below, meth, c, D, A, nL0, Q⟩ := X
  obtain ⟨hx, hb, hml, hown, hts, hK, hA, hlk, en, eR⟩ := C
  subst en eR
  intro H locs ls hP hD hS hl
  exact lv_iload_n hx hb hd hi (lv_at hl j hj) (h H locs ls hP hD hS hl)
theorem zr_il (C : zz_ok X cc own Ts k nL R) (j : Nat) {i : Nat} {x : Int32} (hd : decode cc pc = .ok (.iload i, 2)) (hj : lv[j]? = some (i, .int x)) (hp : pc + 2 = pc') (h : zz_ww X n w pc' lv (.int x :: st)) : zz_ww X n w pc lv st := by
  subst hp
  obtain ⟨p, l, e, R0, s, m, args, below, meth, c, D, A, nL0, Q⟩ := X
  obtain ⟨hx, hb, hml, hown, hts, hK, hA, hlk, en, eR⟩ := C
  subst en eR
  intro H locs ls hP hD hS hl
  exact lv_iload hx hb hd (lv_at hl j hj) (h H locs ls hP hD hS hl)
theorem zr_lln (C : zz_ok X cc own Ts k nL R) (j : Nat) {q : Fin 4} {i : Nat} {x : Int64} (hd : decode cc pc = .ok (.lload_n q, 1)) (hi : (q : Nat) = i) (hj : lv[j]? = some (i, .long x)) (hp : pc + 1 = pc') (h : zz_ww X n w pc' lv (.long x :: st)) : zz_ww X n w pc lv st := by
  subst hp
  obtain ⟨p, l, e, R0, s, m, args, below, meth, c, D, A, nL0, Q⟩ := X
  obtain ⟨hx, hb, hml, hown, hts, hK, hA, hlk, en, eR⟩ := C
  subst en eR
  intro H locs ls hP hD hS hl
  exact lv_lload_n hx hb hd hi (lv_at hl j hj) (h H locs ls hP hD hS hl)
theorem zr_ll (C : zz_ok X cc own Ts k nL R) (j : Nat) {i : Nat} {x : Int64} (hd : decode cc pc = .ok (.lload i, 2)) (hj : lv[j]? = some (i, .long x)) (hp : pc + 2 = pc') (h : zz_ww X n w pc' lv (.long x :: st)) : zz_ww X n w pc lv st := by
  subst hp
  obtain ⟨p, l, e, R0, s, m, args, below, meth, c, D, A, nL0, Q⟩ := X
  obtain ⟨hx, hb, hml, hown, hts, hK, hA, hlk, en, eR⟩ := C
  subst en eR
  intro H locs ls hP hD hS hl
  exact lv_lload hx hb hd (lv_at hl j hj) (h H locs ls hP hD hS hl)
theorem zr_aln (C : zz_ok X cc own Ts k nL R) (j : Nat) {q : Fin 4} {i : Nat} {x : Nat} (hd : decode cc pc = .ok (.aload_n q, 1)) (hi : (q : Nat) = i) (hj : lv[j]? = some (i, .ref x)) (hp : pc + 1 = pc') (h : zz_ww X n w pc' lv (.ref x :: st)) : zz_ww X n w pc lv st := by
  subst hp
  obtain ⟨p, l, e, R0, s, m, args, below, meth, c, D, A, nL0, Q⟩ := X
  obtain ⟨hx, hb, hml, hown, hts, hK, hA, hlk, en, eR⟩ := C
  subst en eR
  intro H locs ls hP hD hS hl
  exact lv_aload_n hx hb hd hi (lv_at hl j hj) (h H locs ls hP hD hS hl)
theorem zr_al (C : zz_ok X cc own Ts k nL R) (j : Nat) {i : Nat} {x : Nat} (hd : decode cc pc = .ok (.aload i, 2)) (hj : lv[j]? = some (i, .ref x)) (hp : pc + 2 = pc') (h : zz_ww X n w pc' lv (.ref x :: st)) : zz_ww X n w pc lv st := by
  subst hp
  obtain ⟨p, l, e, R0, s, m, args, below, meth, c, D, A, nL0, Q⟩ := X
  obtain ⟨hx, hb, hml, hown, hts, hK, hA, hlk, en, eR⟩ := C
  subst en eR
  intro H locs ls hP hD hS hl
  exact lv_aload hx hb hd (lv_at hl j hj) (h H locs ls hP hD hS hl)
theorem zr_isn (C : zz_ok X cc own Ts k nL R) (ks : List Nat) {q : Fin 4} {i : Nat} {x : Int32} (hd : decode cc pc = .ok (.istore_n q, 1)) (hi : (q : Nat) = i) (hp : pc + 1 = pc') (hn : i < nL) {K : Int32 → Option α} (L : Int32 → List (Nat × Value)) (hq : zz_let x K = some r) (hs : ∀ y : Int32, lv_pick ((i, Value.int y) :: lv.filter (fun q => !(q.1 == i) && !(q.1 + 1 == i && q.2.category == 2))) ks = L y) (h : ∀ y : Int32, K y = some r → zz_ww X n w pc' (L y) st) : zz_ww X n w pc lv (.int x :: st) := by
  subst hp
  obtain ⟨p, l, e, R0, s, m, args, below, meth, c, D, A, nL0, Q⟩ := X
  obtain ⟨hx, hb, hml, hown, hts, hK, hA, hlk, en, eR⟩ := C
  subst en eR
  intro H locs ls hP hD hS hl
  exact lv_istore_n hx hb hd hi hl hn rfl (fun ls' hl' => h x hq H locs ls' hP hD hS (lv_sub hl' ks (hs x)))
theorem zr_is (C : zz_ok X cc own Ts k nL R) (ks : List Nat) {i : Nat} {x : Int32} (hd : decode cc pc = .ok (.istore i, 2)) (hp : pc + 2 = pc') (hn : i < nL) {K : Int32 → Option α} (L : Int32 → List (Nat × Value)) (hq : zz_let x K = some r) (hs : ∀ y : Int32, lv_pick ((i, Value.int y) :: lv.filter (fun q => !(q.1 == i) && !(q.1 + 1 == i && q.2.category == 2))) ks = L y) (h : ∀ y : Int32, K y = some r → zz_ww X n w pc' (L y) st) : zz_ww X n w pc lv (.int x :: st) := by
  subst hp
  obtain ⟨p, l, e, R0, s, m, args, below, meth, c, D, A, nL0, Q⟩ := X
  obtain ⟨hx, hb, hml, hown, hts, hK, hA, hlk, en, eR⟩ := C
  subst en eR
  intro H locs ls hP hD hS hl
  exact lv_istore hx hb hd hl hn rfl (fun ls' hl' => h x hq H locs ls' hP hD hS (lv_sub hl' ks (hs x)))
theorem zr_lsn (C : zz_ok X cc own Ts k nL R) (ks : List Nat) {q : Fin 4} {i : Nat} {x : Int64} (hd : decode cc pc = .ok (.lstore_n q, 1)) (hi : (q : Nat) = i) (hp : pc + 1 = pc') (hn : i + 1 < nL) {K : Int64 → Option α} (L : Int64 → List (Nat × Value)) (hq : zz_let x K = some r) (hs : ∀ y : Int64, lv_pick ((i, Value.long y) :: lv.filter (fun q => !(q.1 == i) && (!(q.1 == i + 1) && !(q.1 + 1 == i && q.2.category == 2)))) ks = L y) (h : ∀ y : Int64, K y = some r → zz_ww X n w pc' (L y) st) : zz_ww X n w pc lv (.long x :: st) := by
  subst hp
  obtain ⟨p, l, e, R0, s, m, args, below, meth, c, D, A, nL0, Q⟩ := X
  obtain ⟨hx, hb, hml, hown, hts, hK, hA, hlk, en, eR⟩ := C
  subst en eR
  intro H locs ls hP hD hS hl
  exact lv_lstore_n hx hb hd hi hl hn rfl (fun ls' hl' => h x hq H locs ls' hP hD hS (lv_sub hl' ks (hs x)))
theorem zr_ls (C : zz_ok X cc own Ts k nL R) (ks : List Nat) {i : Nat} {x : Int64} (hd : decode cc pc = .ok (.lstore i, 2)) (hp : pc + 2 = pc') (hn : i + 1 < nL) {K : Int64 → Option α} (L : Int64 → List (Nat × Value)) (hq : zz_let x K = some r) (hs : ∀ y : Int64, lv_pick ((i, Value.long y) :: lv.filter (fun q => !(q.1 == i) && (!(q.1 == i + 1) && !(q.1 + 1 == i && q.2.category == 2)))) ks = L y) (h : ∀ y : Int64, K y = some r → zz_ww X n w pc' (L y) st) : zz_ww X n w pc lv (.long x :: st) := by
  subst hp
  obtain ⟨p, l, e, R0, s, m, args, below, meth, c, D, A, nL0, Q⟩ := X
  obtain ⟨hx, hb, hml, hown, hts, hK, hA, hlk, en, eR⟩ := C
  subst en eR
  intro H locs ls hP hD hS hl
  exact lv_lstore hx hb hd hl hn rfl (fun ls' hl' => h x hq H locs ls' hP hD hS (lv_sub hl' ks (hs x)))
theorem zr_asn (C : zz_ok X cc own Ts k nL R) (ks : List Nat) {q : Fin 4} {i : Nat} {x : Nat} (hd : decode cc pc = .ok (.astore_n q, 1)) (hi : (q : Nat) = i) (hp : pc + 1 = pc') (hn : i < nL) (hs : lv_pick ((i, Value.ref x) :: lv.filter (fun q => !(q.1 == i) && !(q.1 + 1 == i && q.2.category == 2))) ks = lv') (h : zz_ww X n w pc' lv' st) : zz_ww X n w pc lv (.ref x :: st) := by
  subst hp
  obtain ⟨p, l, e, R0, s, m, args, below, meth, c, D, A, nL0, Q⟩ := X
  obtain ⟨hx, hb, hml, hown, hts, hK, hA, hlk, en, eR⟩ := C
  subst en eR
  intro H locs ls hP hD hS hl
  exact lv_astore_n hx hb hd hi hl hn rfl (fun ls' hl' => h H locs ls' hP hD hS (lv_sub hl' ks hs))
theorem zr_as (C : zz_ok X cc own Ts k nL R) (ks : List Nat) {i : Nat} {x : Nat} (hd : decode cc pc = .ok (.astore i, 2)) (hp : pc + 2 = pc') (hn : i < nL) (hs : lv_pick ((i, Value.ref x) :: lv.filter (fun q => !(q.1 == i) && !(q.1 + 1 == i && q.2.category == 2))) ks = lv') (h : zz_ww X n w pc' lv' st) : zz_ww X n w pc lv (.ref x :: st) := by
  subst hp
  obtain ⟨p, l, e, R0, s, m, args, below, meth, c, D, A, nL0, Q⟩ := X
  obtain ⟨hx, hb, hml, hown, hts, hK, hA, hlk, en, eR⟩ := C
  subst en eR
  intro H locs ls hP hD hS hl
  exact lv_astore hx hb hd hl hn rfl (fun ls' hl' => h H locs ls' hP hD hS (lv_sub hl' ks hs))
theorem zr_iinc (C : zz_ok X cc own Ts k nL R) (j : Nat) (ks : List Nat) {i : Nat} {d : Int} {x v : Int32} (hd : decode cc pc = .ok (.iinc i d, 3)) (hp : pc + 3 = pc') (hn : i < nL) (hj : lv[j]? = some (i, .int x)) (hv : Int32.ofInt d = v) {K : Int32 → Option α} (L : Int32 → List (Nat × Value)) (hq : zz_let (x + v) K = some r) (hs : ∀ y : Int32, lv_pick ((i, Value.int y) :: lv.filter (fun q => !(q.1 == i) && !(q.1 + 1 == i && q.2.category == 2))) ks = L y) (h : ∀ y : Int32, K y = some r → zz_ww X n w pc' (L y) st) : zz_ww X n w pc lv st := by
  subst hp
  subst hv
  obtain ⟨p, l, e, R0, s, m, args, below, meth, c, D, A, nL0, Q⟩ := X
  obtain ⟨hx, hb, hml, hown, hts, hK, hA, hlk, en, eR⟩ := C
  subst en eR
  intro H locs ls hP hD hS hl
  exact lv_iinc hx hb hd hl hj rfl hn rfl (fun ls' hl' => h _ hq H locs ls' hP hD hS (lv_sub hl' ks (hs _)))
theorem zr_sub (ks : List Nat) (hs : lv_pick lv ks = lv') (h : zz_ww X n w pc lv' st) : zz_ww X n w pc lv st := by
  obtain ⟨p, l, e, R0, s, m, args, below, meth, c, D, A, nL0, Q⟩ := X
  intro H locs ls hP hD hS hl
  exact h H locs ls hP hD hS (lv_sub hl ks hs)
theorem zr_wide {n' : Nat × Nat} (h1 : n.1 ≤ n'.1) (h2 : n.2 ≤ n'.2) (h : zz_ww X n' w pc lv st) : zz_ww X n w pc lv st := by
  obtain ⟨p, l, e, R0, s, m, args, below, meth, c, D, A, nL0, Q⟩ := X
  intro H locs ls hP hD hS hl
  exact W.widen h1 h2 (h H locs ls hP hD hS hl)
theorem zr_iadd (C : zz_ok X cc own Ts k nL R) {x y : Int32} (hd : decode cc pc = .ok (.iadd, 1)) (hp : pc + 1 = pc') (h : zz_ww X n w pc' lv (.int (x + y) :: st)) : zz_ww X n w pc lv (.int y :: .int x :: st) := by
  subst hp
  obtain ⟨p, l, e, R0, s, m, args, below, meth, c, D, A, nL0, Q⟩ := X
  obtain ⟨hx, hb, hml, hown, hts, hK, hA, hlk, en, eR⟩ := C
  subst en eR
  intro H locs ls hP hD hS hl
  exact lv_iadd hx hb hd (h H locs ls hP hD hS hl)
theorem zr_isub (C : zz_ok X cc own Ts k nL R) {x y : Int32} (hd : decode cc pc = .ok (.isub, 1)) (hp : pc + 1 = pc') (h : zz_ww X n w pc' lv (.int (x - y) :: st)) : zz_ww X n w pc lv (.int y :: .int x :: st) := by
  subst hp
  obtain ⟨p, l, e, R0, s, m, args, below, meth, c, D, A, nL0, Q⟩ := X
  obtain ⟨hx, hb, hml, hown, hts, hK, hA, hlk, en, eR⟩ := C
  subst en eR
  intro H locs ls hP hD hS hl
  exact lv_isub hx hb hd (h H locs ls hP hD hS hl)
theorem zr_imul (C : zz_ok X cc own Ts k nL R) {x y : Int32} (hd : decode cc pc = .ok (.imul, 1)) (hp : pc + 1 = pc') (h : zz_ww X n w pc' lv (.int (x * y) :: st)) : zz_ww X n w pc lv (.int y :: .int x :: st) := by
  subst hp
  obtain ⟨p, l, e, R0, s, m, args, below, meth, c, D, A, nL0, Q⟩ := X
  obtain ⟨hx, hb, hml, hown, hts, hK, hA, hlk, en, eR⟩ := C
  subst en eR
  intro H locs ls hP hD hS hl
  exact lv_imul hx hb hd (h H locs ls hP hD hS hl)
theorem zr_iand (C : zz_ok X cc own Ts k nL R) {x y : Int32} (hd : decode cc pc = .ok (.iand, 1)) (hp : pc + 1 = pc') (h : zz_ww X n w pc' lv (.int (x &&& y) :: st)) : zz_ww X n w pc lv (.int y :: .int x :: st) := by
  subst hp
  obtain ⟨p, l, e, R0, s, m, args, below, meth, c, D, A, nL0, Q⟩ := X
  obtain ⟨hx, hb, hml, hown, hts, hK, hA, hlk, en, eR⟩ := C
  subst en eR
  intro H locs ls hP hD hS hl
  exact lv_iand hx hb hd (h H locs ls hP hD hS hl)
theorem zr_ior (C : zz_ok X cc own Ts k nL R) {x y : Int32} (hd : decode cc pc = .ok (.ior, 1)) (hp : pc + 1 = pc') (h : zz_ww X n w pc' lv (.int (x ||| y) :: st)) : zz_ww X n w pc lv (.int y :: .int x :: st) := by
  subst hp
  obtain ⟨p, l, e, R0, s, m, args, below, meth, c, D, A, nL0, Q⟩ := X
  obtain ⟨hx, hb, hml, hown, hts, hK, hA, hlk, en, eR⟩ := C
  subst en eR
  intro H locs ls hP hD hS hl
  exact lv_ior hx hb hd (h H locs ls hP hD hS hl)
theorem zr_ishl (C : zz_ok X cc own Ts k nL R) {x y : Int32} (hd : decode cc pc = .ok (.ishl, 1)) (hp : pc + 1 = pc') (h : zz_ww X n w pc' lv (.int (x <<< (y &&& 31)) :: st)) : zz_ww X n w pc lv (.int y :: .int x :: st) := by
  subst hp
  obtain ⟨p, l, e, R0, s, m, args, below, meth, c, D, A, nL0, Q⟩ := X
  obtain ⟨hx, hb, hml, hown, hts, hK, hA, hlk, en, eR⟩ := C
  subst en eR
  intro H locs ls hP hD hS hl
  exact lv_ishl hx hb hd (h H locs ls hP hD hS hl)
theorem zr_ishr (C : zz_ok X cc own Ts k nL R) {x y : Int32} (hd : decode cc pc = .ok (.ishr, 1)) (hp : pc + 1 = pc') (h : zz_ww X n w pc' lv (.int (x >>> (y &&& 31)) :: st)) : zz_ww X n w pc lv (.int y :: .int x :: st) := by
  subst hp
  obtain ⟨p, l, e, R0, s, m, args, below, meth, c, D, A, nL0, Q⟩ := X
  obtain ⟨hx, hb, hml, hown, hts, hK, hA, hlk, en, eR⟩ := C
  subst en eR
  intro H locs ls hP hD hS hl
  exact lv_ishr hx hb hd (h H locs ls hP hD hS hl)
theorem zr_iushr (C : zz_ok X cc own Ts k nL R) {x y : Int32} (hd : decode cc pc = .ok (.iushr, 1)) (hp : pc + 1 = pc') (h : zz_ww X n w pc' lv (.int ((x.toUInt32 >>> (y.toUInt32 &&& Int32.toUInt32 31)).toInt32) :: st)) : zz_ww X n w pc lv (.int y :: .int x :: st) := by
  subst hp
  obtain ⟨p, l, e, R0, s, m, args, below, meth, c, D, A, nL0, Q⟩ := X
  obtain ⟨hx, hb, hml, hown, hts, hK, hA, hlk, en, eR⟩ := C
  subst en eR
  intro H locs ls hP hD hS hl
  exact lv_iushr hx hb hd rfl (h H locs ls hP hD hS hl)
theorem zr_lushr (C : zz_ok X cc own Ts k nL R) {x : Int64} {y : Int32} (hd : decode cc pc = .ok (.lushr, 1)) (hp : pc + 1 = pc') (h : zz_ww X n w pc' lv (.long ((x.toUInt64 >>> (y.toInt64.toUInt64 &&& Int64.toUInt64 63)).toInt64) :: st)) : zz_ww X n w pc lv (.int y :: .long x :: st) := by
  subst hp
  obtain ⟨p, l, e, R0, s, m, args, below, meth, c, D, A, nL0, Q⟩ := X
  obtain ⟨hx, hb, hml, hown, hts, hK, hA, hlk, en, eR⟩ := C
  subst en eR
  intro H locs ls hP hD hS hl
  exact lv_lushr hx hb hd rfl (h H locs ls hP hD hS hl)
theorem zr_i2l (C : zz_ok X cc own Ts k nL R) {x : Int32} (hd : decode cc pc = .ok (.i2l, 1)) (hp : pc + 1 = pc') (h : zz_ww X n w pc' lv (.long x.toInt64 :: st)) : zz_ww X n w pc lv (.int x :: st) := by
  subst hp
  obtain ⟨p, l, e, R0, s, m, args, below, meth, c, D, A, nL0, Q⟩ := X
  obtain ⟨hx, hb, hml, hown, hts, hK, hA, hlk, en, eR⟩ := C
  subst en eR
  intro H locs ls hP hD hS hl
  exact lv_i2l hx hb hd rfl (h H locs ls hP hD hS hl)
theorem zr_l2i (C : zz_ok X cc own Ts k nL R) {x : Int64} (hd : decode cc pc = .ok (.l2i, 1)) (hp : pc + 1 = pc') (h : zz_ww X n w pc' lv (.int x.toInt32 :: st)) : zz_ww X n w pc lv (.long x :: st) := by
  subst hp
  obtain ⟨p, l, e, R0, s, m, args, below, meth, c, D, A, nL0, Q⟩ := X
  obtain ⟨hx, hb, hml, hown, hts, hK, hA, hlk, en, eR⟩ := C
  subst en eR
  intro H locs ls hP hD hS hl
  exact lv_l2i hx hb hd rfl (h H locs ls hP hD hS hl)
theorem zr_ladd (C : zz_ok X cc own Ts k nL R) {x y : Int64} (hd : decode cc pc = .ok (.ladd, 1)) (hp : pc + 1 = pc') (h : zz_ww X n w pc' lv (.long (x + y) :: st)) : zz_ww X n w pc lv (.long y :: .long x :: st) := by
  subst hp
  obtain ⟨p, l, e, R0, s, m, args, below, meth, c, D, A, nL0, Q⟩ := X
  obtain ⟨hx, hb, hml, hown, hts, hK, hA, hlk, en, eR⟩ := C
  subst en eR
  intro H locs ls hP hD hS hl
  exact lv_ladd hx hb hd (h H locs ls hP hD hS hl)
theorem zr_lsub (C : zz_ok X cc own Ts k nL R) {x y : Int64} (hd : decode cc pc = .ok (.lsub, 1)) (hp : pc + 1 = pc') (h : zz_ww X n w pc' lv (.long (x - y) :: st)) : zz_ww X n w pc lv (.long y :: .long x :: st) := by
  subst hp
  obtain ⟨p, l, e, R0, s, m, args, below, meth, c, D, A, nL0, Q⟩ := X
  obtain ⟨hx, hb, hml, hown, hts, hK, hA, hlk, en, eR⟩ := C
  subst en eR
  intro H locs ls hP hD hS hl
  exact lv_lsub hx hb hd (h H locs ls hP hD hS hl)
theorem zr_lmul (C : zz_ok X cc own Ts k nL R) {x y : Int64} (hd : decode cc pc = .ok (.lmul, 1)) (hp : pc + 1 = pc') (h : zz_ww X n w pc' lv (.long (x * y) :: st)) : zz_ww X n w pc lv (.long y :: .long x :: st) := by
  subst hp
  obtain ⟨p, l, e, R0, s, m, args, below, meth, c, D, A, nL0, Q⟩ := X
  obtain ⟨hx, hb, hml, hown, hts, hK, hA, hlk, en, eR⟩ := C
  subst en eR
  intro H locs ls hP hD hS hl
  exact lv_lmul hx hb hd (h H locs ls hP hD hS hl)
theorem zr_lcmp (C : zz_ok X cc own Ts k nL R) {x y : Int64} (hd : decode cc pc = .ok (.lcmp, 1)) (hp : pc + 1 = pc') (h : zz_ww X n w pc' lv (.int (lg_cmp x y) :: st)) : zz_ww X n w pc lv (.long y :: .long x :: st) := by
  subst hp
  obtain ⟨p, l, e, R0, s, m, args, below, meth, c, D, A, nL0, Q⟩ := X
  obtain ⟨hx, hb, hml, hown, hts, hK, hA, hlk, en, eR⟩ := C
  subst en eR
  intro H locs ls hP hD hS hl
  exact W.lcmp hx hb hd (h H locs ls hP hD hS hl)
theorem zr_dup (C : zz_ok X cc own Ts k nL R) {v : Value} (hd : decode cc pc = .ok (.dup, 1)) (hv : v.category = 1) (hp : pc + 1 = pc') (h : zz_ww X n w pc' lv (v :: v :: st)) : zz_ww X n w pc lv (v :: st) := by
  subst hp
  obtain ⟨p, l, e, R0, s, m, args, below, meth, c, D, A, nL0, Q⟩ := X
  obtain ⟨hx, hb, hml, hown, hts, hK, hA, hlk, en, eR⟩ := C
  subst en eR
  intro H locs ls hP hD hS hl
  exact lv_dup hx hb hd hv (h H locs ls hP hD hS hl)
theorem zr_dup2 (C : zz_ok X cc own Ts k nL R) {v u : Value} (hd : decode cc pc = .ok (.dup2, 1)) (hv : v.category = 1) (hu : u.category = 1) (hp : pc + 1 = pc') (h : zz_ww X n w pc' lv (v :: u :: v :: u :: st)) : zz_ww X n w pc lv (v :: u :: st) := by
  subst hp
  obtain ⟨p, l, e, R0, s, m, args, below, meth, c, D, A, nL0, Q⟩ := X
  obtain ⟨hx, hb, hml, hown, hts, hK, hA, hlk, en, eR⟩ := C
  subst en eR
  intro H locs ls hP hD hS hl
  exact lv_dup2_11 hx hb hd hv hu (h H locs ls hP hD hS hl)
theorem zr_pop (C : zz_ok X cc own Ts k nL R) {v : Value} (hd : decode cc pc = .ok (.pop, 1)) (hv : v.category = 1) (hp : pc + 1 = pc') (h : zz_ww X n w pc' lv st) : zz_ww X n w pc lv (v :: st) := by
  subst hp
  obtain ⟨p, l, e, R0, s, m, args, below, meth, c, D, A, nL0, Q⟩ := X
  obtain ⟨hx, hb, hml, hown, hts, hK, hA, hlk, en, eR⟩ := C
  subst en eR
  intro H locs ls hP hD hS hl
  exact lv_pop hx hb hd hv (h H locs ls hP hD hS hl)
theorem zr_idiv (C : zz_ok X cc own Ts k nL R) {x y : Int32} (hd : decode cc pc = .ok (.idiv, 1)) (hp : pc + 1 = pc') {K : Option α} (hq : zz_gd (!(y == 0)) K = some r) (h : K = some r → zz_ww X n w pc' lv (.int (x / y) :: st)) : zz_ww X n w pc lv (.int y :: .int x :: st) := by
  subst hp
  obtain ⟨hne, hq⟩ := zz_gd_some hq
  have hne : ¬ y = 0 := by simpa using hne
  obtain ⟨p, l, e, R0, s, m, args, below, meth, c, D, A, nL0, Q⟩ := X
  obtain ⟨hx, hb, hml, hown, hts, hK, hA, hlk, en, eR⟩ := C
  subst en eR
  intro H locs ls hP hD hS hl
  exact lv_idiv hx hb hd hne (h hq H locs ls hP hD hS hl)
theorem zr_irem (C : zz_ok X cc own Ts k nL R) {x y : Int32} (hd : decode cc pc = .ok (.irem, 1)) (hp : pc + 1 = pc') {K : Option α} (hq : zz_gd (!(y == 0)) K = some r) (h : K = some r → zz_ww X n w pc' lv (.int (x - x / y * y) :: st)) : zz_ww X n w pc lv (.int y :: .int x :: st) := by
  subst hp
  obtain ⟨hne, hq⟩ := zz_gd_some hq
  have hne : ¬ y = 0 := by simpa using hne
  obtain ⟨p, l, e, R0, s, m, args, below, meth, c, D, A, nL0, Q⟩ := X
  obtain ⟨hx, hb, hml, hown, hts, hK, hA, hlk, en, eR⟩ := C
  subst en eR
  intro H locs ls hP hD hS hl
  exact lv_irem hx hb hd hne (h hq H locs ls hP hD hS hl)
theorem zr_lrem (C : zz_ok X cc own Ts k nL R) {x y : Int64} (hd : decode cc pc = .ok (.lrem, 1)) (hp : pc + 1 = pc') {K : Option α} (hq : zz_gd (!(y == 0)) K = some r) (h : K = some r → zz_ww X n w pc' lv (.long (x - x / y * y) :: st)) : zz_ww X n w pc lv (.long y :: .long x :: st) := by
  subst hp
  obtain ⟨hne, hq⟩ := zz_gd_some hq
  have hne : ¬ y = 0 := by simpa using hne
  obtain ⟨p, l, e, R0, s, m, args, below, meth, c, D, A, nL0, Q⟩ := X
  obtain ⟨hx, hb, hml, hown, hts, hK, hA, hlk, en, eR⟩ := C
  subst en eR
  intro H locs ls hP hD hS hl
  exact lv_lrem hx hb hd hne (h hq H locs ls hP hD hS hl)
theorem zr_if_eq (C : zz_ok X cc own Ts k nL R) {x : Int32} {off : Int} {tgt : Nat} (hd : decode cc pc = .ok (.ifCond .eq off, 3)) (ht : (pc : Int) + off = (tgt : Int)) (hp : pc + 3 = pc') {K1 K2 : Option α} (hq : (if x = 0 then K1 else K2) = some r) (h1 : K1 = some r → zz_ww X n w tgt lv st) (h2 : K2 = some r → zz_ww X n w pc' lv st) : zz_ww X n w pc lv (.int x :: st) := by
  subst hp
  obtain ⟨p, l, e, R0, s, m, args, below, meth, c, D, A, nL0, Q⟩ := X
  obtain ⟨hx, hb, hml, hown, hts, hK, hA, hlk, en, eR⟩ := C
  subst en eR
  intro H locs ls hP hD hS hl
  exact lv_if_eq hx hb hd ht (fun hc => h1 (by rw [if_pos hc] at hq; exact hq) H locs ls hP hD hS hl) (fun hc => h2 (by rw [if_neg hc] at hq; exact hq) H locs ls hP hD hS hl)
theorem zr_if_ne (C : zz_ok X cc own Ts k nL R) {x : Int32} {off : Int} {tgt : Nat} (hd : decode cc pc = .ok (.ifCond .ne off, 3)) (ht : (pc : Int) + off = (tgt : Int)) (hp : pc + 3 = pc') {K1 K2 : Option α} (hq : (if x = 0 then K2 else K1) = some r) (h1 : K1 = some r → zz_ww X n w tgt lv st) (h2 : K2 = some r → zz_ww X n w pc' lv st) : zz_ww X n w pc lv (.int x :: st) := by
  subst hp
  obtain ⟨p, l, e, R0, s, m, args, below, meth, c, D, A, nL0, Q⟩ := X
  obtain ⟨hx, hb, hml, hown, hts, hK, hA, hlk, en, eR⟩ := C
  subst en eR
  intro H locs ls hP hD hS hl
  exact lv_if_ne hx hb hd ht (fun hc => h1 (by rw [if_neg hc] at hq; exact hq) H locs ls hP hD hS hl) (fun hc => h2 (by rw [if_pos hc] at hq; exact hq) H locs ls hP hD hS hl)
theorem zr_if_lt (C : zz_ok X cc own Ts k nL R) {x : Int32} {off : Int} {tgt : Nat} (hd : decode cc pc = .ok (.ifCond .lt off, 3)) (ht : (pc : Int) + off = (tgt : Int)) (hp : pc + 3 = pc') {K1 K2 : Option α} (hq : (if x < 0 then K1 else K2) = some r) (h1 : K1 = some r → zz_ww X n w tgt lv st) (h2 : K2 = some r → zz_ww X n w pc' lv st) : zz_ww X n w pc lv (.int x :: st) := by
  subst hp
  obtain ⟨p, l, e, R0, s, m, args, below, meth, c, D, A, nL0, Q⟩ := X
  obtain ⟨hx, hb, hml, hown, hts, hK, hA, hlk, en, eR⟩ := C
  subst en eR
  intro H locs ls hP hD hS hl
  exact lv_if_lt hx hb hd ht (fun hc => h1 (by rw [if_pos hc] at hq; exact hq) H locs ls hP hD hS hl) (fun hc => h2 (by rw [if_neg hc] at hq; exact hq) H locs ls hP hD hS hl)
theorem zr_if_ge (C : zz_ok X cc own Ts k nL R) {x : Int32} {off : Int} {tgt : Nat} (hd : decode cc pc = .ok (.ifCond .ge off, 3)) (ht : (pc : Int) + off = (tgt : Int)) (hp : pc + 3 = pc') {K1 K2 : Option α} (hq : (if 0 ≤ x then K1 else K2) = some r) (h1 : K1 = some r → zz_ww X n w tgt lv st) (h2 : K2 = some r → zz_ww X n w pc' lv st) : zz_ww X n w pc lv (.int x :: st) := by
  subst hp
  obtain ⟨p, l, e, R0, s, m, args, below, meth, c, D, A, nL0, Q⟩ := X
  obtain ⟨hx, hb, hml, hown, hts, hK, hA, hlk, en, eR⟩ := C
  subst en eR
  intro H locs ls hP hD hS hl
  exact lv_if_ge hx hb hd ht (fun hc => h1 (by rw [if_pos hc] at hq; exact hq) H locs ls hP hD hS hl) (fun hc => h2 (by rw [if_neg hc] at hq; exact hq) H locs ls hP hD hS hl)
theorem zr_if_gt (C : zz_ok X cc own Ts k nL R) {x : Int32} {off : Int} {tgt : Nat} (hd : decode cc pc = .ok (.ifCond .gt off, 3)) (ht : (pc : Int) + off = (tgt : Int)) (hp : pc + 3 = pc') {K1 K2 : Option α} (hq : (if 0 < x then K1 else K2) = some r) (h1 : K1 = some r → zz_ww X n w tgt lv st) (h2 : K2 = some r → zz_ww X n w pc' lv st) : zz_ww X n w pc lv (.int x :: st) := by
  subst hp
  obtain ⟨p, l, e, R0, s, m, args, below, meth, c, D, A, nL0, Q⟩ := X
  obtain ⟨hx, hb, hml, hown, hts, hK, hA, hlk, en, eR⟩ := C
  subst en eR
  intro H locs ls hP hD hS hl
  exact lv_if_gt hx hb hd ht (fun hc => h1 (by rw [if_pos hc] at hq; exact hq) H locs ls hP hD hS hl) (fun hc => h2 (by rw [if_neg hc] at hq; exact hq) H locs ls hP hD hS hl)
theorem zr_if_le (C : zz_ok X cc own Ts k nL R) {x : Int32} {off : Int} {tgt : Nat} (hd : decode cc pc = .ok (.ifCond .le off, 3)) (ht : (pc : Int) + off = (tgt : Int)) (hp : pc + 3 = pc') {K1 K2 : Option α} (hq : (if x ≤ 0 then K1 else K2) = some r) (h1 : K1 = some r → zz_ww X n w tgt lv st) (h2 : K2 = some r → zz_ww X n w pc' lv st) : zz_ww X n w pc lv (.int x :: st) := by
  subst hp
  obtain ⟨p, l, e, R0, s, m, args, below, meth, c, D, A, nL0, Q⟩ := X
  obtain ⟨hx, hb, hml, hown, hts, hK, hA, hlk, en, eR⟩ := C
  subst en eR
  intro H locs ls hP hD hS hl
  exact lv_if_le hx hb hd ht (fun hc => h1 (by rw [if_pos hc] at hq; exact hq) H locs ls hP hD hS hl) (fun hc => h2 (by rw [if_neg hc] at hq; exact hq) H locs ls hP hD hS hl)
theorem zr_icmp_eq (C : zz_ok X cc own Ts k nL R) {x y : Int32} {off : Int} {tgt : Nat} (hd : decode cc pc = .ok (.if_icmp .eq off, 3)) (ht : (pc : Int) + off = (tgt : Int)) (hp : pc + 3 = pc') {K1 K2 : Option α} (hq : (if x = y then K1 else K2) = some r) (h1 : K1 = some r → zz_ww X n w tgt lv st) (h2 : K2 = some r → zz_ww X n w pc' lv st) : zz_ww X n w pc lv (.int y :: .int x :: st) := by
  subst hp
  obtain ⟨p, l, e, R0, s, m, args, below, meth, c, D, A, nL0, Q⟩ := X
  obtain ⟨hx, hb, hml, hown, hts, hK, hA, hlk, en, eR⟩ := C
  subst en eR
  intro H locs ls hP hD hS hl
  exact lv_icmp_eq hx hb hd ht (fun hc => h1 (by rw [if_pos hc] at hq; exact hq) H locs ls hP hD hS hl) (fun hc => h2 (by rw [if_neg hc] at hq; exact hq) H locs ls hP hD hS hl)
theorem zr_icmp_ne (C : zz_ok X cc own Ts k nL R) {x y : Int32} {off : Int} {tgt : Nat} (hd : decode cc pc = .ok (.if_icmp .ne off, 3)) (ht : (pc : Int) + off = (tgt : Int)) (hp : pc + 3 = pc') {K1 K2 : Option α} (hq : (if x = y then K2 else K1) = some r) (h1 : K1 = some r → zz_ww X n w tgt lv st) (h2 : K2 = some r → zz_ww X n w pc' lv st) : zz_ww X n w pc lv (.int y :: .int x :: st) := by
  subst hp
  obtain ⟨p, l, e, R0, s, m, args, below, meth, c, D, A, nL0, Q⟩ := X
  obtain ⟨hx, hb, hml, hown, hts, hK, hA, hlk, en, eR⟩ := C
  subst en eR
  intro H locs ls hP hD hS hl
  exact lv_icmp_ne hx hb hd ht (fun hc => h1 (by rw [if_neg hc] at hq; exact hq) H locs ls hP hD hS hl) (fun hc => h2 (by rw [if_pos hc] at hq; exact hq) H locs ls hP hD hS hl)
theorem zr_icmp_lt (C : zz_ok X cc own Ts k nL R) {x y : Int32} {off : Int} {tgt : Nat} (hd : decode cc pc = .ok (.if_icmp .lt off, 3)) (ht : (pc : Int) + off = (tgt : Int)) (hp : pc + 3 = pc') {K1 K2 : Option α} (hq : (if x < y then K1 else K2) = some r) (h1 : K1 = some r → zz_ww X n w tgt lv st) (h2 : K2 = some r → zz_ww X n w pc' lv st) : zz_ww X n w pc lv (.int y :: .int x :: st) := by
  subst hp
  obtain ⟨p, l, e, R0, s, m, args, below, meth, c, D, A, nL0, Q⟩ := X
  obtain ⟨hx, hb, hml, hown, hts, hK, hA, hlk, en, eR⟩ := C
  subst en eR
  intro H locs ls hP hD hS hl
  exact lv_icmp_lt hx hb hd ht (fun hc => h1 (by rw [if_pos hc] at hq; exact hq) H locs ls hP hD hS hl) (fun hc => h2 (by rw [if_neg hc] at hq; exact hq) H locs ls hP hD hS hl)
theorem zr_icmp_ge (C : zz_ok X cc own Ts k nL R) {x y : Int32} {off : Int} {tgt : Nat} (hd : decode cc pc = .ok (.if_icmp .ge off, 3)) (ht : (pc : Int) + off = (tgt : Int)) (hp : pc + 3 = pc') {K1 K2 : Option α} (hq : (if y ≤ x then K1 else K2) = some r) (h1 : K1 = some r → zz_ww X n w tgt lv st) (h2 : K2 = some r → zz_ww X n w pc' lv st) : zz_ww X n w pc lv (.int y :: .int x :: st) := by
  subst hp
  obtain ⟨p, l, e, R0, s, m, args, below, meth, c, D, A, nL0, Q⟩ := X
  obtain ⟨hx, hb, hml, hown, hts, hK, hA, hlk, en, eR⟩ := C
  subst en eR
  intro H locs ls hP hD hS hl
  exact lv_icmp_ge hx hb hd ht (fun hc => h1 (by rw [if_pos hc] at hq; exact hq) H locs ls hP hD hS hl) (fun hc => h2 (by rw [if_neg hc] at hq; exact hq) H locs ls hP hD hS hl)
theorem zr_icmp_gt (C : zz_ok X cc own Ts k nL R) {x y : Int32} {off : Int} {tgt : Nat} (hd : decode cc pc = .ok (.if_icmp .gt off, 3)) (ht : (pc : Int) + off = (tgt : Int)) (hp : pc + 3 = pc') {K1 K2 : Option α} (hq : (if y < x then K1 else K2) = some r) (h1 : K1 = some r → zz_ww X n w tgt lv st) (h2 : K2 = some r → zz_ww X n w pc' lv st) : zz_ww X n w pc lv (.int y :: .int x :: st) := by
  subst hp
  obtain ⟨p, l, e, R0, s, m, args, below, meth, c, D, A, nL0, Q⟩ := X
  obtain ⟨hx, hb, hml, hown, hts, hK, hA, hlk, en, eR⟩ := C
  subst en eR
  intro H locs ls hP hD hS hl
  exact lv_icmp_gt hx hb hd ht (fun hc => h1 (by rw [if_pos hc] at hq; exact hq) H locs ls hP hD hS hl) (fun hc => h2 (by rw [if_neg hc] at hq; exact hq) H locs ls hP hD hS hl)
theorem zr_icmp_le (C : zz_ok X cc own Ts k nL R) {x y : Int32} {off : Int} {tgt : Nat} (hd : decode cc pc = .ok (.if_icmp .le off, 3)) (ht : (pc : Int) + off = (tgt : Int)) (hp : pc + 3 = pc') {K1 K2 : Option α} (hq : (if x ≤ y then K1 else K2) = some r) (h1 : K1 = some r → zz_ww X n w tgt lv st) (h2 : K2 = some r → zz_ww X n w pc' lv st) : zz_ww X n w pc lv (.int y :: .int x :: st) := by
  subst hp
  obtain ⟨p, l, e, R0, s, m, args, below, meth, c, D, A, nL0, Q⟩ := X
  obtain ⟨hx, hb, hml, hown, hts, hK, hA, hlk, en, eR⟩ := C
  subst en eR
  intro H locs ls hP hD hS hl
  exact lv_icmp_le hx hb hd ht (fun hc => h1 (by rw [if_pos hc] at hq; exact hq) H locs ls hP hD hS hl) (fun hc => h2 (by rw [if_neg hc] at hq; exact hq) H locs ls hP hD hS hl)
theorem zr_goto (C : zz_ok X cc own Ts k nL R) {off : Int} {tgt : Nat} (hd : decode cc pc = .ok (.goto off, 3)) (ht : (pc : Int) + off = (tgt : Int)) (h : zz_ww X n w tgt lv st) : zz_ww X n w pc lv st := by
  obtain ⟨p, l, e, R0, s, m, args, below, meth, c, D, A, nL0, Q⟩ := X
  obtain ⟨hx, hb, hml, hown, hts, hK, hA, hlk, en, eR⟩ := C
  subst en eR
  intro H locs ls hP hD hS hl
  exact lv_goto hx hb hd ht (h H locs ls hP hD hS hl)
theorem zr_tabIn (C : zz_ok X cc own Ts k nL R) {dflt lo hi : Int} {offs : Array Int} {len : Nat} {x v : Int32} {off : Int} {tgt : Nat} (hd : decode cc pc = .ok (.tableswitch dflt lo hi offs, len)) (hv : x = v) (h1 : ¬ v.toInt < lo) (h2 : ¬ hi < v.toInt) (ho : offs[(v.toInt - lo).toNat]? = some off) (ht : (pc : Int) + off = (tgt : Int)) (h : zz_ww X n w tgt lv st) : zz_ww X n w pc lv (.int x :: st) := by
  subst hv
  obtain ⟨p, l, e, R0, s, m, args, below, meth, c, D, A, nL0, Q⟩ := X
  obtain ⟨hx, hb, hml, hown, hts, hK, hA, hlk, en, eR⟩ := C
  subst en eR
  intro H locs ls hP hD hS hl
  exact lv_tableIn hx hb hd h1 h2 ho ht (h H locs ls hP hD hS hl)
theorem zr_tabOut (C : zz_ok X cc own Ts k nL R) {dflt lo hi : Int} {offs : Array Int} {len : Nat} {x : Int32} {tgt : Nat} (hd : decode cc pc = .ok (.tableswitch dflt lo hi offs, len)) (hv : x.toInt < lo ∨ hi < x.toInt) (ht : (pc : Int) + dflt = (tgt : Int)) (h : zz_ww X n w tgt lv st) : zz_ww X n w pc lv (.int x :: st) := by
  obtain ⟨p, l, e, R0, s, m, args, below, meth, c, D, A, nL0, Q⟩ := X
  obtain ⟨hx, hb, hml, hown, hts, hK, hA, hlk, en, eR⟩ := C
  subst en eR
  intro H locs ls hP hD hS hl
  exact lv_tableOut hx hb hd hv ht (h H locs ls hP hD hS hl)
theorem zr_get (C : zz_ok X cc own Ts k nL R) {Cn : String} {T : u_T} {N ci index a : Nat} {fs : List Value} {v : Value} (hin : ∀ w ∈ u_ws Cn T N, w ∈ Ts) (q0 f : Nat) (he : w[q0]? = some (a, .inr (ci, fs))) (hc : zz_cl[ci]? = some (Cn, T, N)) (hf : f < N) (hv : fs[f]? = some v) (hm : Cond.fieldLink own index (T f).1 (T f).2.1 (T f).2.2.1 ∈ Ts) (hd : decode cc pc = .ok (.getfield index, 3)) (hp : pc + 3 = pc') (h : zz_ww X n w pc' lv (v :: st)) : zz_ww X n w pc lv (.ref a :: st) := by
  subst hp
  obtain ⟨p, l, e, R0, s, m, args, below, meth, c, D, A, nL0, Q⟩ := X
  obtain ⟨hx, hb, hml, hown, hts, hK, hA, hlk, en, eR⟩ := C
  subst en eR
  intro H locs ls hP hD hS hl
  exact va_get hx hb hts hin hown hK hP q0 he hc f hf (hts _ hm) (fun _ h9 => h9) hv hd (h H locs ls hP hD hS hl)
theorem zr_put (C : zz_ok X cc own Ts k nL R) {Cn : String} {T : u_T} {N ci index a : Nat} {fs : List Value} {v : Value} {ty : FieldType} (hin : ∀ w ∈ u_ws Cn T N, w ∈ Ts) (ty0 : Nat → FieldType) (hty : ∀ k, k < N → parseFieldDescriptor (T k).2.2.1 = some (ty0 k)) (hnm : ∀ a, a < N → ∀ b, b < N → a ≠ b → (T a).2.1 ≠ (T b).2.1) (q0 f : Nat) (he : w[q0]? = some (a, .inr (ci, fs))) (hc : zz_cl[ci]? = some (Cn, T, N)) (hf : f < N) (hm : Cond.fieldLink own index (T f).1 (T f).2.1 (T f).2.2.1 ∈ Ts) (hfin : (T f).2.2.2 = false) (hde : parseFieldDescriptor (T f).2.2.1 = some ty) (hn : narrow ty v = v) (hfit : fits ty v = true) (hlen : f < fs.length) (hw : w.set q0 (a, .inr (ci, fs.set f v)) = w') (hd : decode cc pc = .ok (.putfield index, 3)) (hp : pc + 3 = pc') (h : zz_ww X n w' pc' lv st) : zz_ww X n w pc lv (v :: .ref a :: st) := by
  subst hp
  subst hw
  obtain ⟨p, l, e, R0, s, m, args, below, meth, c, D, A, nL0, Q⟩ := X
  obtain ⟨hx, hb, hml, hown, hts, hK, hA, hlk, en, eR⟩ := C
  subst en eR
  intro H locs ls hP hD hS hl
  exact va_put hx hb hts hin ty0 hty hnm hown hK hP hD hS q0 he hc f hf (hts _ hm) (fun _ h9 => h9) hfin hde hn hfit hlen hd (fun H1 locs1 hP1 hD1 hS1 => h H1 locs1 ls hP1 hD1 hS1 hl)
theorem zr_alen (C : zz_ok X cc own Ts k nL R) {a t0 : Nat} {cA : ClassId} {x : vp_A} {ty : FieldType} (q0 : Nat) (he : w[q0]? = some (a, .inl (cA, x))) (ht : (zz_tys k)[t0]? = some (cA, ty)) (hd : decode cc pc = .ok (.arraylength, 1)) (hp : pc + 1 = pc') (h : zz_ww X n w pc' lv (.int (nI x.1) :: st)) : zz_ww X n w pc lv (.ref a :: st) := by
  subst hp
  obtain ⟨p, l, e, R0, s, m, args, below, meth, c, D, A, nL0, Q⟩ := X
  obtain ⟨hx, hb, hml, hown, hts, hK, hA, hlk, en, eR⟩ := C
  subst en eR
  intro H locs ls hP hD hS hl
  exact va_alen hx hb hK hP q0 t0 he ht rfl hd (h H locs ls hP hD hS hl)
theorem zr_aldq (C : zz_ok X cc own Ts k nL R) {a N : Nat} {f : Nat → Option Nat} {i : Int32} (q0 : Nat) (he : w[q0]? = some (a, .inl (k 3, N, .inr (.inr (.inr (.inr f)))))) (hd : decode cc pc = .ok (.aaload, 1)) (hp : pc + 1 = pc') {K : Option α} (hq : zz_gd (zz_in i N) K = some r) (h : zz_in i N = true → K = some r → zz_ww X n w pc' lv (va_rf (f i.toNatClampNeg) :: st)) : zz_ww X n w pc lv (.int i :: .ref a :: st) := by
  subst hp
  obtain ⟨hg, hq⟩ := zz_gd_some hq
  obtain ⟨p, l, e, R0, s, m, args, below, meth, c, D, A, nL0, Q⟩ := X
  obtain ⟨hx, hb, hml, hown, hts, hK, hA, hlk, en, eR⟩ := C
  subst en eR
  intro H locs ls hP hD hS hl
  exact va_aldq hx hb hK hP q0 3 he rfl (zz_in_vp hg) hd (h hg hq H locs ls hP hD hS hl)
theorem zr_iald (C : zz_ok X cc own Ts k nL R) {a N : Nat} {f : Nat → Int32} {i : Int32} (q0 : Nat) (he : w[q0]? = some (a, .inl (k 0, N, .inl f))) (hd : decode cc pc = .ok (.iaload, 1)) (hp : pc + 1 = pc') {K : Option α} (hq : zz_gd (zz_in i N) K = some r) (h : K = some r → zz_ww X n w pc' lv (.int (f i.toNatClampNeg) :: st)) : zz_ww X n w pc lv (.int i :: .ref a :: st) := by
  subst hp
  obtain ⟨hg, hq⟩ := zz_gd_some hq
  obtain ⟨p, l, e, R0, s, m, args, below, meth, c, D, A, nL0, Q⟩ := X
  obtain ⟨hx, hb, hml, hown, hts, hK, hA, hlk, en, eR⟩ := C
  subst en eR
  intro H locs ls hP hD hS hl
  exact va_iald hx hb hK hP q0 0 he rfl (zz_in_vp hg) hd (h hq H locs ls hP hD hS hl)
theorem zr_zald (C : zz_ok X cc own Ts k nL R) {a N : Nat} {f : Nat → Int32} {i : Int32} (q0 : Nat) (he : w[q0]? = some (a, .inl (k 2, N, .inl f))) (hd : decode cc pc = .ok (.baload, 1)) (hp : pc + 1 = pc') {K : Option α} (hq : zz_gd (zz_in i N) K = some r) (h : K = some r → zz_ww X n w pc' lv (.int (f i.toNatClampNeg) :: st)) : zz_ww X n w pc lv (.int i :: .ref a :: st) := by
  subst hp
  obtain ⟨hg, hq⟩ := zz_gd_some hq
  obtain ⟨p, l, e, R0, s, m, args, below, meth, c, D, A, nL0, Q⟩ := X
  obtain ⟨hx, hb, hml, hown, hts, hK, hA, hlk, en, eR⟩ := C
  subst en eR
  intro H locs ls hP hD hS hl
  exact va_zald hx hb hK hP q0 2 he rfl (zz_in_vp hg) hd (h hq H locs ls hP hD hS hl)
theorem zr_lald (C : zz_ok X cc own Ts k nL R) {a N : Nat} {f : Nat → Int64} {i : Int32} (q0 : Nat) (he : w[q0]? = some (a, .inl (k 1, N, .inr (.inl f)))) (hd : decode cc pc = .ok (.laload, 1)) (hp : pc + 1 = pc') {K : Option α} (hq : zz_gd (zz_in i N) K = some r) (h : K = some r → zz_ww X n w pc' lv (.long (f i.toNatClampNeg) :: st)) : zz_ww X n w pc lv (.int i :: .ref a :: st) := by
  subst hp
  obtain ⟨hg, hq⟩ := zz_gd_some hq
  obtain ⟨p, l, e, R0, s, m, args, below, meth, c, D, A, nL0, Q⟩ := X
  obtain ⟨hx, hb, hml, hown, hts, hK, hA, hlk, en, eR⟩ := C
  subst en eR
  intro H locs ls hP hD hS hl
  exact va_lald hx hb hK hP q0 1 he rfl (zz_in_vp hg) hd (h hq H locs ls hP hD hS hl)
theorem zr_iast (C : zz_ok X cc own Ts k nL R) {a N : Nat} {f : Nat → Int32} {i : Int32} {x : Int32} (q0 : Nat) (he : w[q0]? = some (a, .inl (k 0, N, .inl f))) (hd : decode cc pc = .ok (.iastore, 1)) (hp : pc + 1 = pc') {K : Option α} (hq : zz_gd (zz_in i N) K = some r) (hw : w.set q0 (a, .inl (k 0, N, .inl (upd f i.toNatClampNeg x))) = w') (h : K = some r → zz_ww X n w' pc' lv st) : zz_ww X n w pc lv (.int x :: .int i :: .ref a :: st) := by
  subst hp
  subst hw
  obtain ⟨hg, hq⟩ := zz_gd_some hq
  obtain ⟨p, l, e, R0, s, m, args, below, meth, c, D, A, nL0, Q⟩ := X
  obtain ⟨hx, hb, hml, hown, hts, hK, hA, hlk, en, eR⟩ := C
  subst en eR
  intro H locs ls hP hD hS hl
  exact va_iast hx hb hK hP hD hS q0 0 he rfl (zz_in_vp hg) hd (fun H1 locs1 hP1 hD1 hS1 => h hq H1 locs1 ls hP1 hD1 hS1 hl)
theorem zr_zast (C : zz_ok X cc own Ts k nL R) {a N : Nat} {f : Nat → Int32} {i : Int32} {x : Int32} (q0 : Nat) (he : w[q0]? = some (a, .inl (k 2, N, .inl f))) (hd : decode cc pc = .ok (.bastore, 1)) (hp : pc + 1 = pc') {K : Option α} (hq : zz_gd (zz_in i N) K = some r) (hw : w.set q0 (a, .inl (k 2, N, .inl (upd f i.toNatClampNeg (vp_nar .boolean x)))) = w') (h : K = some r → zz_ww X n w' pc' lv st) : zz_ww X n w pc lv (.int x :: .int i :: .ref a :: st) := by
  subst hp
  subst hw
  obtain ⟨hg, hq⟩ := zz_gd_some hq
  obtain ⟨p, l, e, R0, s, m, args, below, meth, c, D, A, nL0, Q⟩ := X
  obtain ⟨hx, hb, hml, hown, hts, hK, hA, hlk, en, eR⟩ := C
  subst en eR
  intro H locs ls hP hD hS hl
  exact va_zast hx hb hK hP hD hS q0 2 he rfl (zz_in_vp hg) hd (fun H1 locs1 hP1 hD1 hS1 => h hq H1 locs1 ls hP1 hD1 hS1 hl)
theorem zr_last (C : zz_ok X cc own Ts k nL R) {a N : Nat} {f : Nat → Int64} {i : Int32} {x : Int64} (q0 : Nat) (he : w[q0]? = some (a, .inl (k 1, N, .inr (.inl f)))) (hd : decode cc pc = .ok (.lastore, 1)) (hp : pc + 1 = pc') {K : Option α} (hq : zz_gd (zz_in i N) K = some r) (hw : w.set q0 (a, .inl (k 1, N, .inr (.inl (vp_updL f i.toNatClampNeg x)))) = w') (h : K = some r → zz_ww X n w' pc' lv st) : zz_ww X n w pc lv (.long x :: .int i :: .ref a :: st) := by
  subst hp
  subst hw
  obtain ⟨hg, hq⟩ := zz_gd_some hq
  obtain ⟨p, l, e, R0, s, m, args, below, meth, c, D, A, nL0, Q⟩ := X
  obtain ⟨hx, hb, hml, hown, hts, hK, hA, hlk, en, eR⟩ := C
  subst en eR
  intro H locs ls hP hD hS hl
  exact va_last hx hb hK hP hD hS q0 1 he rfl (zz_in_vp hg) hd (fun H1 locs1 hP1 hD1 hS1 => h hq H1 locs1 ls hP1 hD1 hS1 hl)
end ZR
/-! contracts: a method over the whole world of its module -/
def zz_Pr (D : va_G) (k : Nat → ClassId) (w : va_W) (sz : Nat) : State → Prop := fun U => U.heap.size = sz ∧ va_P D zz_cl w U.heap ∧ va_K D zz_cl (zz_tys k) U ∧ va_D (fun _ => True) w
def zz_Po {σ : Type} (D : va_G) (k : Nat → ClassId) (wf : σ → va_W) (A : Nat → Prop) : σ → State → Prop := fun u t => va_P D zz_cl (wf u) t.heap ∧ va_K D zz_cl (zz_tys k) t ∧ va_D A (wf u)
theorem zz_blind {D : va_G} {k : Nat → ClassId} {w : va_W} {sz : Nat} {av : List Value} : FrameBlind (va_Pc av (zz_Pr D k w sz)) := fun a U g mk q => by
  obtain ⟨q0, q1, qP, qK, qD⟩ := q
  exact ⟨q0, q1, qP, va_K.moved (u := U) (U := U.calling g mk a) (Vm.Alike.refl U.vm) qK, qD⟩
def zz_MI {σ : Type} (l : Launch) (y : MethodName) (ws : List Cond) (rm : Room) (D : va_G) (k : Nat → ClassId) (wf : σ → va_W) (av : List Value) (S : σ) (r : Int32 × σ) : Prop := ∀ sz : Nat, Met l y ws rm (va_Pc av (zz_Pr D k (wf S) sz)) (va_Qi (fun (v : Int32) (u : σ) => (v, u) = r) (zz_Po D k wf (va_A (wf S) sz)) (va_A (wf S) sz)) rm.cells rm.slots (va_A (wf S) sz)
set_option maxHeartbeats 4000000 in
theorem zz_metI {σ : Type} {l : Launch} {y : MethodName} {ws ws' : List Cond} {rm : Room} {D : va_G} {k : Nat → ClassId} {wf : σ → va_W} {av : List Value} {S : σ} {r : Int32 × σ} {cc : ByteArray} {nL : Nat} {ty : FieldType} (hy : plainName y.cls = true) (hw : ws = Cond.code y cc nL (some ty) :: ws') (hlen : (lg_sl av).length ≤ nL)
    (body : ∀ X : zz_X, zz_ok X cc y.cls ws k nL rm → (∀ (v : Int32) (u : σ) (pc : Nat) (lv : List (Nat × Value)) (n : Nat × Nat), n.1 ≤ rm.cells → n.2 ≤ rm.slots → decode cc pc = .ok (.ireturn, 1) → narrow ty (.int v) = .int v → some (v, u) = some r → zz_ww X n (wf u) pc lv [.int v]) → zz_ww X (0, 0) (wf S) 0 (lv_args 0 av) []) : zz_MI l y ws rm D k wf av S r := by
  intro sz
  refine Met.ofW (cc := cc) (maxL := nL) (ret := (some ty)) hy hw ?_
  intro p e s m args below meth c s₁ B hml hv
  obtain ⟨rfl, hsz, hP, hK, hD0⟩ := hv
  have hx := B.exec
  have hb := B.bytes
  have hr := B.returns
  have hts := atoms_spec (ws := ws) B.pre
  have hown : s.vm.findClass y.cls = some m.cls := findClass_of_methodNamed B.named
  have hlocks := B.notSynchronized
  subst hsz
  have hD := hD0.self (sz := s.heap.size)
  generalize hAe : va_A (wf S) s.heap.size = A at hD ⊢
  have hA : ∀ q : Nat, s.heap.size ≤ q → A q := fun q h => by rw [← hAe]; exact Or.inr h
  have hS : va_S A s.heap s.heap [] := va_S.rf
  have hl := lv_entry av (n := nL) hlen
  rw [lg_entry_eq]
  refine body (p, l, e, rm, s, m, av.toArray, below, meth, c, D, A, nL, MQ below (va_Qi (fun (v : Int32) (u : σ) => (v, u) = r) (zz_Po D k wf A) A) av.toArray s rm.cells rm.slots A) ⟨hx, hb, hml, hown, hts, hK, hA, hlocks, rfl, rfl⟩ ?_ s.heap [] _ hP hD hS hl
  · intro v u pc lv n h1 h2 hd hn he
    cases he
    intro H locs ls hP hD hS hl
    refine W.widen h1 h2 ?_
    exact W.zret hx hb hr hn (fun t ht hW => ⟨⟨v, u, rfl, rfl, by rw [ht]; exact hP, va_K.moved hW.alike hK, hD⟩, hS.F ht⟩) hS.2.2 hd
def zz_ML {σ : Type} (l : Launch) (y : MethodName) (ws : List Cond) (rm : Room) (D : va_G) (k : Nat → ClassId) (wf : σ → va_W) (av : List Value) (S : σ) (r : Int64 × σ) : Prop := ∀ sz : Nat, Met l y ws rm (va_Pc av (zz_Pr D k (wf S) sz)) (va_Ql (fun (v : Int64) (u : σ) => (v, u) = r) (zz_Po D k wf (va_A (wf S) sz)) (va_A (wf S) sz)) rm.cells rm.slots (va_A (wf S) sz)
set_option maxHeartbeats 4000000 in
theorem zz_metL {σ : Type} {l : Launch} {y : MethodName} {ws ws' : List Cond} {rm : Room} {D : va_G} {k : Nat → ClassId} {wf : σ → va_W} {av : List Value} {S : σ} {r : Int64 × σ} {cc : ByteArray} {nL : Nat}  (hy : plainName y.cls = true) (hw : ws = Cond.code y cc nL (some .long) :: ws') (hlen : (lg_sl av).length ≤ nL)
    (body : ∀ X : zz_X, zz_ok X cc y.cls ws k nL rm → (∀ (v : Int64) (u : σ) (pc : Nat) (lv : List (Nat × Value)) (n : Nat × Nat), n.1 ≤ rm.cells → n.2 ≤ rm.slots → decode cc pc = .ok (.lreturn, 1) → some (v, u) = some r → zz_ww X n (wf u) pc lv [.long v]) → zz_ww X (0, 0) (wf S) 0 (lv_args 0 av) []) : zz_ML l y ws rm D k wf av S r := by
  intro sz
  refine Met.ofW (cc := cc) (maxL := nL) (ret := (some .long)) hy hw ?_
  intro p e s m args below meth c s₁ B hml hv
  obtain ⟨rfl, hsz, hP, hK, hD0⟩ := hv
  have hx := B.exec
  have hb := B.bytes
  have hr := B.returns
  have hts := atoms_spec (ws := ws) B.pre
  have hown : s.vm.findClass y.cls = some m.cls := findClass_of_methodNamed B.named
  have hlocks := B.notSynchronized
  subst hsz
  have hD := hD0.self (sz := s.heap.size)
  generalize hAe : va_A (wf S) s.heap.size = A at hD ⊢
  have hA : ∀ q : Nat, s.heap.size ≤ q → A q := fun q h => by rw [← hAe]; exact Or.inr h
  have hS : va_S A s.heap s.heap [] := va_S.rf
  have hl := lv_entry av (n := nL) hlen
  rw [lg_entry_eq]
  refine body (p, l, e, rm, s, m, av.toArray, below, meth, c, D, A, nL, MQ below (va_Ql (fun (v : Int64) (u : σ) => (v, u) = r) (zz_Po D k wf A) A) av.toArray s rm.cells rm.slots A) ⟨hx, hb, hml, hown, hts, hK, hA, hlocks, rfl, rfl⟩ ?_ s.heap [] _ hP hD hS hl
  · intro v u pc lv n h1 h2 hd he
    cases he
    intro H locs ls hP hD hS hl
    refine W.widen h1 h2 ?_
    exact W.lret hx hb hr (fun t ht hW => ⟨⟨v, u, rfl, rfl, by rw [ht]; exact hP, va_K.moved hW.alike hK, hD⟩, hS.F ht⟩) hS.2.2 hd
def zz_MV {σ : Type} (l : Launch) (y : MethodName) (ws : List Cond) (rm : Room) (D : va_G) (k : Nat → ClassId) (wf : σ → va_W) (av : List Value) (S : σ) (r : σ) : Prop := ∀ sz : Nat, Met l y ws rm (va_Pc av (zz_Pr D k (wf S) sz)) (va_Qv (fun u : σ => u = r) (zz_Po D k wf (va_A (wf S) sz)) (va_A (wf S) sz)) rm.cells rm.slots (va_A (wf S) sz)
set_option maxHeartbeats 4000000 in
theorem zz_metV {σ : Type} {l : Launch} {y : MethodName} {ws ws' : List Cond} {rm : Room} {D : va_G} {k : Nat → ClassId} {wf : σ → va_W} {av : List Value} {S : σ} {r : σ} {cc : ByteArray} {nL : Nat}  (hy : plainName y.cls = true) (hw : ws = Cond.code y cc nL none :: ws') (hlen : (lg_sl av).length ≤ nL)
    (body : ∀ X : zz_X, zz_ok X cc y.cls ws k nL rm → (∀ (u : σ) (pc : Nat) (lv : List (Nat × Value)) (n : Nat × Nat), n.1 ≤ rm.cells → n.2 ≤ rm.slots → decode cc pc = .ok (.return_, 1) → some u = some r → zz_ww X n (wf u) pc lv []) → zz_ww X (0, 0) (wf S) 0 (lv_args 0 av) []) : zz_MV l y ws rm D k wf av S r := by
  intro sz
  refine Met.ofW (cc := cc) (maxL := nL) (ret := none) hy hw ?_
  intro p e s m args below meth c s₁ B hml hv
  obtain ⟨rfl, hsz, hP, hK, hD0⟩ := hv
  have hx := B.exec
  have hb := B.bytes
  have hr := B.returns
  have hts := atoms_spec (ws := ws) B.pre
  have hown : s.vm.findClass y.cls = some m.cls := findClass_of_methodNamed B.named
  have hlocks := B.notSynchronized
  subst hsz
  have hD := hD0.self (sz := s.heap.size)
  generalize hAe : va_A (wf S) s.heap.size = A at hD ⊢
  have hA : ∀ q : Nat, s.heap.size ≤ q → A q := fun q h => by rw [← hAe]; exact Or.inr h
  have hS : va_S A s.heap s.heap [] := va_S.rf
  have hl := lv_entry av (n := nL) hlen
  rw [lg_entry_eq]
  refine body (p, l, e, rm, s, m, av.toArray, below, meth, c, D, A, nL, MQ below (va_Qv (fun u : σ => u = r) (zz_Po D k wf A) A) av.toArray s rm.cells rm.slots A) ⟨hx, hb, hml, hown, hts, hK, hA, hlocks, rfl, rfl⟩ ?_ s.heap [] _ hP hD hS hl
  · intro u pc lv n h1 h2 hd he
    cases he
    intro H locs ls hP hD hS hl
    refine W.widen h1 h2 ?_
    exact W.vret hx hb hr (fun t ht hW => ⟨⟨_, rfl, rfl, by rw [ht]; exact hP, va_K.moved hW.alike hK, hD⟩, hS.F ht⟩) hS.2.2 hd
theorem zr_cVi {X : zz_X} {cc : ByteArray} {own : String} {Ts : List Cond} {k : Nat → ClassId} {nL : Nat} {R : Room} {n n' : Nat × Nat} {pc pc' : Nat} {lv : List (Nat × Value)} {st st0 : List Value} {α : Type} {r : α} {σ : Type} {wf : σ → va_W} {S : σ} {Cn : String} {index maxL na : Nat} {y : MethodName} {bytes : ByteArray} {ret : Option FieldType} {ws ws' : List Cond} {rm : Room} {b : Nat} {As : List Value} {F : Option (Int32 × σ)} {K : Int32 → σ → Option α}
    (C : zz_ok X cc own Ts k nL R) (hM : ∀ (l : Launch) (D : va_G) (v : Int32) (u : σ), F = some (v, u) → zz_MI l y ws rm D k wf (.ref b :: As) S (v, u)) (hG : GoodIn Ts (wsV own index Cn y ws)) (hw : ws = Cond.code y bytes maxL ret :: ws') (hd9 : y.cls = Cn ∧ y.cls ≠ "java/lang/invoke/MethodHandle" ∧ y.cls ≠ "java/lang/invoke/VarHandle" ∧ (parseMethodDescriptor y.desc).map (fun d => d.parameters.length) = some na)
    (hR : rm.frames + 1 ≤ R.frames ∧ 8 + (maxL + 11) + rm.locals ≤ R.locals) (hrc : n.1 + rm.cells ≤ R.cells ∧ n.2 + rm.slots ≤ R.slots) (hn : As.length = na) (hrv : ∃ (q0 ci : Nat) (fs : List Value) (T : u_T) (N : Nat), (wf S)[q0]? = some (b, .inr (ci, fs)) ∧ zz_cl[ci]? = some (Cn, T, N)) (hst : (st.map fun v => v.category).sum ≤ 8) (hs : As.reverse ++ .ref b :: st = st0)
    (hd : decode cc pc = .ok (.invokevirtual index, 3)) (hp : pc + 3 = pc') (hn' : (n.1 + rm.cells, n.2 + rm.slots) = n') (hq : zz_b2 F K = some r) (h : ∀ (v : Int32) (u : σ), F = some (v, u) → K v u = some r → zz_ww X n' (wf u) pc' lv (.int v :: st)) : zz_ww X n (wf S) pc lv st0 := by
  subst hp
  subst hs
  subst hn'
  obtain ⟨p, l, e, R0, s, m, args, below, meth, c, D, A, nL0, Q⟩ := X
  obtain ⟨hx, hb, hml, hown, hts, hK, hA, hlk, en, eR⟩ := C
  subst en eR
  intro H locs ls hP hD hS hl
  obtain ⟨v, u, hF0, hq⟩ := zz_b2_some hq
  have hF : ∀ q, va_A (wf S) H.size q → A q := fun q hq => hq.elim (fun ⟨k9, e9, h9⟩ => hD.2 k9 (q, e9) h9) (fun h9 => hA q (Nat.le_trans hS.1 h9))
  refine va_calli (va_runV (As := As) (rest := st) ⟨hx, hb, hml, hown, hts⟩ (hM l D v u hF0 H.size) (cwV na hts hG hw rfl rfl hd9 hR) ⟨zz_blind, (by obtain ⟨q0, ci, fs, T, N, he, hc⟩ := hrv; exact va_recv hK hP hc he), fun U hU hW => ⟨rfl, by rw [hU], by rw [hU]; exact hP, va_K.moved hW.alike hK, hD.weaken (fun _ _ _ _ => trivial)⟩⟩ rfl hn hl.1 rfl (lv_room hst) hd hrc) hS (fun q _ h => hF q h) hF (fun v9 u9 t H1 locs1 ht hvm hpost hB hz1 hk1 hS1 => ?_)
  cases hpost
  obtain ⟨hP1, hK1, hD1⟩ := hB
  rw [ht] at hP1
  exact h v u hF0 hq H1 locs1 ls hP1 (hD1.weaken (fun _ _ _ h9 => hF _ h9)) hS1 hl
theorem zr_cVir {X : zz_X} {cc : ByteArray} {own : String} {Ts : List Cond} {k : Nat → ClassId} {nL : Nat} {R : Room} {n n' : Nat × Nat} {pc pc' : Nat} {lv : List (Nat × Value)} {st st0 : List Value} {α : Type} {r : α} {σ : Type} {wf : σ → va_W} {S : σ} {Cn : String} {index maxL na : Nat} {y : MethodName} {bytes : ByteArray} {ret : Option FieldType} {ws ws' : List Cond} {rm : Room} {b : Nat} {As : List Value} {F : Option Int32} {K : Int32 → Option α}
    (C : zz_ok X cc own Ts k nL R) (hM : ∀ (l : Launch) (D : va_G) (v : Int32), F = some v → zz_MI l y ws rm D k wf (.ref b :: As) S (v, S)) (hG : GoodIn Ts (wsV own index Cn y ws)) (hw : ws = Cond.code y bytes maxL ret :: ws') (hd9 : y.cls = Cn ∧ y.cls ≠ "java/lang/invoke/MethodHandle" ∧ y.cls ≠ "java/lang/invoke/VarHandle" ∧ (parseMethodDescriptor y.desc).map (fun d => d.parameters.length) = some na)
    (hR : rm.frames + 1 ≤ R.frames ∧ 8 + (maxL + 11) + rm.locals ≤ R.locals) (hrc : n.1 + rm.cells ≤ R.cells ∧ n.2 + rm.slots ≤ R.slots) (hn : As.length = na) (hrv : ∃ (q0 ci : Nat) (fs : List Value) (T : u_T) (N : Nat), (wf S)[q0]? = some (b, .inr (ci, fs)) ∧ zz_cl[ci]? = some (Cn, T, N)) (hst : (st.map fun v => v.category).sum ≤ 8) (hs : As.reverse ++ .ref b :: st = st0)
    (hd : decode cc pc = .ok (.invokevirtual index, 3)) (hp : pc + 3 = pc') (hn' : (n.1 + rm.cells, n.2 + rm.slots) = n') (hq : zz_b1 F K = some r) (h : ∀ v : Int32, F = some v → K v = some r → zz_ww X n' (wf S) pc' lv (.int v :: st)) : zz_ww X n (wf S) pc lv st0 := by
  subst hp
  subst hs
  subst hn'
  obtain ⟨p, l, e, R0, s, m, args, below, meth, c, D, A, nL0, Q⟩ := X
  obtain ⟨hx, hb, hml, hown, hts, hK, hA, hlk, en, eR⟩ := C
  subst en eR
  intro H locs ls hP hD hS hl
  obtain ⟨v, hF0, hq⟩ := zz_b1_some hq
  have hF : ∀ q, va_A (wf S) H.size q → A q := fun q hq => hq.elim (fun ⟨k9, e9, h9⟩ => hD.2 k9 (q, e9) h9) (fun h9 => hA q (Nat.le_trans hS.1 h9))
  refine va_calli (va_runV (As := As) (rest := st) ⟨hx, hb, hml, hown, hts⟩ (hM l D v hF0 H.size) (cwV na hts hG hw rfl rfl hd9 hR) ⟨zz_blind, (by obtain ⟨q0, ci, fs, T, N, he, hc⟩ := hrv; exact va_recv hK hP hc he), fun U hU hW => ⟨rfl, by rw [hU], by rw [hU]; exact hP, va_K.moved hW.alike hK, hD.weaken (fun _ _ _ _ => trivial)⟩⟩ rfl hn hl.1 rfl (lv_room hst) hd hrc) hS (fun q _ h => hF q h) hF (fun v9 u9 t H1 locs1 ht hvm hpost hB hz1 hk1 hS1 => ?_)
  cases hpost
  obtain ⟨hP1, hK1, hD1⟩ := hB
  rw [ht] at hP1
  exact h v hF0 hq H1 locs1 ls hP1 (hD1.weaken (fun _ _ _ h9 => hF _ h9)) hS1 hl
theorem zr_cSi {X : zz_X} {cc : ByteArray} {own : String} {Ts : List Cond} {k : Nat → ClassId} {nL : Nat} {R : Room} {n n' : Nat × Nat} {pc pc' : Nat} {lv : List (Nat × Value)} {st st0 : List Value} {α : Type} {r : α} {σ : Type} {wf : σ → va_W} {S : σ}  {index maxL na : Nat} {y : MethodName} {bytes : ByteArray} {ret : Option FieldType} {ws ws' : List Cond} {rm : Room}  {As : List Value} {F : Option (Int32 × σ)} {K : Int32 → σ → Option α}
    (C : zz_ok X cc own Ts k nL R) (hM : ∀ (l : Launch) (D : va_G) (v : Int32) (u : σ), F = some (v, u) → zz_MI l y ws rm D k wf As S (v, u)) (hG : GoodIn Ts (va_wsS own index y ws)) (hw : ws = Cond.code y bytes maxL ret :: ws') (hd9 : y.cls ≠ "java/lang/invoke/MethodHandle" ∧ y.cls ≠ "java/lang/invoke/VarHandle" ∧ (parseMethodDescriptor y.desc).map (fun d => d.parameters.length) = some na)
    (hR : rm.frames + 1 ≤ R.frames ∧ 8 + (maxL + 11) + rm.locals ≤ R.locals) (hrc : n.1 + rm.cells ≤ R.cells ∧ n.2 + rm.slots ≤ R.slots) (hn : As.length = na)  (hst : (st.map fun v => v.category).sum ≤ 8) (hs : As.reverse ++ st = st0)
    (hd : decode cc pc = .ok (.invokestatic index, 3)) (hp : pc + 3 = pc') (hn' : (n.1 + rm.cells, n.2 + rm.slots) = n') (hq : zz_b2 F K = some r) (h : ∀ (v : Int32) (u : σ), F = some (v, u) → K v u = some r → zz_ww X n' (wf u) pc' lv (.int v :: st)) : zz_ww X n (wf S) pc lv st0 := by
  subst hp
  subst hs
  subst hn'
  obtain ⟨p, l, e, R0, s, m, args, below, meth, c, D, A, nL0, Q⟩ := X
  obtain ⟨hx, hb, hml, hown, hts, hK, hA, hlk, en, eR⟩ := C
  subst en eR
  intro H locs ls hP hD hS hl
  obtain ⟨v, u, hF0, hq⟩ := zz_b2_some hq
  have hF : ∀ q, va_A (wf S) H.size q → A q := fun q hq => hq.elim (fun ⟨k9, e9, h9⟩ => hD.2 k9 (q, e9) h9) (fun h9 => hA q (Nat.le_trans hS.1 h9))
  refine va_calli (va_runS (As := As) (rest := st) ⟨hx, hb, hml, hown, hts⟩ (hM l D v u hF0 H.size) (va_cwS na hts hG hw rfl rfl hd9 hR) ⟨zz_blind, fun U hU hW => ⟨rfl, by rw [hU], by rw [hU]; exact hP, va_K.moved hW.alike hK, hD.weaken (fun _ _ _ _ => trivial)⟩⟩ rfl hn hl.1 rfl (lv_room hst) hd hrc) hS (fun q _ h => hF q h) hF (fun v9 u9 t H1 locs1 ht hvm hpost hB hz1 hk1 hS1 => ?_)
  cases hpost
  obtain ⟨hP1, hK1, hD1⟩ := hB
  rw [ht] at hP1
  exact h v u hF0 hq H1 locs1 ls hP1 (hD1.weaken (fun _ _ _ h9 => hF _ h9)) hS1 hl
theorem zr_cSir {X : zz_X} {cc : ByteArray} {own : String} {Ts : List Cond} {k : Nat → ClassId} {nL : Nat} {R : Room} {n n' : Nat × Nat} {pc pc' : Nat} {lv : List (Nat × Value)} {st st0 : List Value} {α : Type} {r : α} {σ : Type} {wf : σ → va_W} {S : σ}  {index maxL na : Nat} {y : MethodName} {bytes : ByteArray} {ret : Option FieldType} {ws ws' : List Cond} {rm : Room}  {As : List Value} {F : Option Int32} {K : Int32 → Option α}
    (C : zz_ok X cc own Ts k nL R) (hM : ∀ (l : Launch) (D : va_G) (v : Int32), F = some v → zz_MI l y ws rm D k wf As S (v, S)) (hG : GoodIn Ts (va_wsS own index y ws)) (hw : ws = Cond.code y bytes maxL ret :: ws') (hd9 : y.cls ≠ "java/lang/invoke/MethodHandle" ∧ y.cls ≠ "java/lang/invoke/VarHandle" ∧ (parseMethodDescriptor y.desc).map (fun d => d.parameters.length) = some na)
    (hR : rm.frames + 1 ≤ R.frames ∧ 8 + (maxL + 11) + rm.locals ≤ R.locals) (hrc : n.1 + rm.cells ≤ R.cells ∧ n.2 + rm.slots ≤ R.slots) (hn : As.length = na)  (hst : (st.map fun v => v.category).sum ≤ 8) (hs : As.reverse ++ st = st0)
    (hd : decode cc pc = .ok (.invokestatic index, 3)) (hp : pc + 3 = pc') (hn' : (n.1 + rm.cells, n.2 + rm.slots) = n') (hq : zz_b1 F K = some r) (h : ∀ v : Int32, F = some v → K v = some r → zz_ww X n' (wf S) pc' lv (.int v :: st)) : zz_ww X n (wf S) pc lv st0 := by
  subst hp
  subst hs
  subst hn'
  obtain ⟨p, l, e, R0, s, m, args, below, meth, c, D, A, nL0, Q⟩ := X
  obtain ⟨hx, hb, hml, hown, hts, hK, hA, hlk, en, eR⟩ := C
  subst en eR
  intro H locs ls hP hD hS hl
  obtain ⟨v, hF0, hq⟩ := zz_b1_some hq
  have hF : ∀ q, va_A (wf S) H.size q → A q := fun q hq => hq.elim (fun ⟨k9, e9, h9⟩ => hD.2 k9 (q, e9) h9) (fun h9 => hA q (Nat.le_trans hS.1 h9))
  refine va_calli (va_runS (As := As) (rest := st) ⟨hx, hb, hml, hown, hts⟩ (hM l D v hF0 H.size) (va_cwS na hts hG hw rfl rfl hd9 hR) ⟨zz_blind, fun U hU hW => ⟨rfl, by rw [hU], by rw [hU]; exact hP, va_K.moved hW.alike hK, hD.weaken (fun _ _ _ _ => trivial)⟩⟩ rfl hn hl.1 rfl (lv_room hst) hd hrc) hS (fun q _ h => hF q h) hF (fun v9 u9 t H1 locs1 ht hvm hpost hB hz1 hk1 hS1 => ?_)
  cases hpost
  obtain ⟨hP1, hK1, hD1⟩ := hB
  rw [ht] at hP1
  exact h v hF0 hq H1 locs1 ls hP1 (hD1.weaken (fun _ _ _ h9 => hF _ h9)) hS1 hl
theorem zr_cVl {X : zz_X} {cc : ByteArray} {own : String} {Ts : List Cond} {k : Nat → ClassId} {nL : Nat} {R : Room} {n n' : Nat × Nat} {pc pc' : Nat} {lv : List (Nat × Value)} {st st0 : List Value} {α : Type} {r : α} {σ : Type} {wf : σ → va_W} {S : σ} {Cn : String} {index maxL na : Nat} {y : MethodName} {bytes : ByteArray} {ret : Option FieldType} {ws ws' : List Cond} {rm : Room} {b : Nat} {As : List Value} {F : Option (Int64 × σ)} {K : Int64 → σ → Option α}
    (C : zz_ok X cc own Ts k nL R) (hM : ∀ (l : Launch) (D : va_G) (v : Int64) (u : σ), F = some (v, u) → zz_ML l y ws rm D k wf (.ref b :: As) S (v, u)) (hG : GoodIn Ts (wsV own index Cn y ws)) (hw : ws = Cond.code y bytes maxL ret :: ws') (hd9 : y.cls = Cn ∧ y.cls ≠ "java/lang/invoke/MethodHandle" ∧ y.cls ≠ "java/lang/invoke/VarHandle" ∧ (parseMethodDescriptor y.desc).map (fun d => d.parameters.length) = some na)
    (hR : rm.frames + 1 ≤ R.frames ∧ 8 + (maxL + 11) + rm.locals ≤ R.locals) (hrc : n.1 + rm.cells ≤ R.cells ∧ n.2 + rm.slots ≤ R.slots) (hn : As.length = na) (hrv : ∃ (q0 ci : Nat) (fs : List Value) (T : u_T) (N : Nat), (wf S)[q0]? = some (b, .inr (ci, fs)) ∧ zz_cl[ci]? = some (Cn, T, N)) (hst : (st.map fun v => v.category).sum ≤ 8) (hs : As.reverse ++ .ref b :: st = st0)
    (hd : decode cc pc = .ok (.invokevirtual index, 3)) (hp : pc + 3 = pc') (hn' : (n.1 + rm.cells, n.2 + rm.slots) = n') (hq : zz_b2 F K = some r) (h : ∀ (v : Int64) (u : σ), F = some (v, u) → K v u = some r → zz_ww X n' (wf u) pc' lv (.long v :: st)) : zz_ww X n (wf S) pc lv st0 := by
  subst hp
  subst hs
  subst hn'
  obtain ⟨p, l, e, R0, s, m, args, below, meth, c, D, A, nL0, Q⟩ := X
  obtain ⟨hx, hb, hml, hown, hts, hK, hA, hlk, en, eR⟩ := C
  subst en eR
  intro H locs ls hP hD hS hl
  obtain ⟨v, u, hF0, hq⟩ := zz_b2_some hq
  have hF : ∀ q, va_A (wf S) H.size q → A q := fun q hq => hq.elim (fun ⟨k9, e9, h9⟩ => hD.2 k9 (q, e9) h9) (fun h9 => hA q (Nat.le_trans hS.1 h9))
  refine va_calll (va_runV (As := As) (rest := st) ⟨hx, hb, hml, hown, hts⟩ (hM l D v u hF0 H.size) (cwV na hts hG hw rfl rfl hd9 hR) ⟨zz_blind, (by obtain ⟨q0, ci, fs, T, N, he, hc⟩ := hrv; exact va_recv hK hP hc he), fun U hU hW => ⟨rfl, by rw [hU], by rw [hU]; exact hP, va_K.moved hW.alike hK, hD.weaken (fun _ _ _ _ => trivial)⟩⟩ rfl hn hl.1 rfl (lv_room hst) hd hrc) hS (fun q _ h => hF q h) hF (fun v9 u9 t H1 locs1 ht hvm hpost hB hz1 hk1 hS1 => ?_)
  cases hpost
  obtain ⟨hP1, hK1, hD1⟩ := hB
  rw [ht] at hP1
  exact h v u hF0 hq H1 locs1 ls hP1 (hD1.weaken (fun _ _ _ h9 => hF _ h9)) hS1 hl
theorem zr_cVlr {X : zz_X} {cc : ByteArray} {own : String} {Ts : List Cond} {k : Nat → ClassId} {nL : Nat} {R : Room} {n n' : Nat × Nat} {pc pc' : Nat} {lv : List (Nat × Value)} {st st0 : List Value} {α : Type} {r : α} {σ : Type} {wf : σ → va_W} {S : σ} {Cn : String} {index maxL na : Nat} {y : MethodName} {bytes : ByteArray} {ret : Option FieldType} {ws ws' : List Cond} {rm : Room} {b : Nat} {As : List Value} {F : Option Int64} {K : Int64 → Option α}
    (C : zz_ok X cc own Ts k nL R) (hM : ∀ (l : Launch) (D : va_G) (v : Int64), F = some v → zz_ML l y ws rm D k wf (.ref b :: As) S (v, S)) (hG : GoodIn Ts (wsV own index Cn y ws)) (hw : ws = Cond.code y bytes maxL ret :: ws') (hd9 : y.cls = Cn ∧ y.cls ≠ "java/lang/invoke/MethodHandle" ∧ y.cls ≠ "java/lang/invoke/VarHandle" ∧ (parseMethodDescriptor y.desc).map (fun d => d.parameters.length) = some na)
    (hR : rm.frames + 1 ≤ R.frames ∧ 8 + (maxL + 11) + rm.locals ≤ R.locals) (hrc : n.1 + rm.cells ≤ R.cells ∧ n.2 + rm.slots ≤ R.slots) (hn : As.length = na) (hrv : ∃ (q0 ci : Nat) (fs : List Value) (T : u_T) (N : Nat), (wf S)[q0]? = some (b, .inr (ci, fs)) ∧ zz_cl[ci]? = some (Cn, T, N)) (hst : (st.map fun v => v.category).sum ≤ 8) (hs : As.reverse ++ .ref b :: st = st0)
    (hd : decode cc pc = .ok (.invokevirtual index, 3)) (hp : pc + 3 = pc') (hn' : (n.1 + rm.cells, n.2 + rm.slots) = n') (hq : zz_b1 F K = some r) (h : ∀ v : Int64, F = some v → K v = some r → zz_ww X n' (wf S) pc' lv (.long v :: st)) : zz_ww X n (wf S) pc lv st0 := by
  subst hp
  subst hs
  subst hn'
  obtain ⟨p, l, e, R0, s, m, args, below, meth, c, D, A, nL0, Q⟩ := X
  obtain ⟨hx, hb, hml, hown, hts, hK, hA, hlk, en, eR⟩ := C
  subst en eR
  intro H locs ls hP hD hS hl
  obtain ⟨v, hF0, hq⟩ := zz_b1_some hq
  have hF : ∀ q, va_A (wf S) H.size q → A q := fun q hq => hq.elim (fun ⟨k9, e9, h9⟩ => hD.2 k9 (q, e9) h9) (fun h9 => hA q (Nat.le_trans hS.1 h9))
  refine va_calll (va_runV (As := As) (rest := st) ⟨hx, hb, hml, hown, hts⟩ (hM l D v hF0 H.size) (cwV na hts hG hw rfl rfl hd9 hR) ⟨zz_blind, (by obtain ⟨q0, ci, fs, T, N, he, hc⟩ := hrv; exact va_recv hK hP hc he), fun U hU hW => ⟨rfl, by rw [hU], by rw [hU]; exact hP, va_K.moved hW.alike hK, hD.weaken (fun _ _ _ _ => trivial)⟩⟩ rfl hn hl.1 rfl (lv_room hst) hd hrc) hS (fun q _ h => hF q h) hF (fun v9 u9 t H1 locs1 ht hvm hpost hB hz1 hk1 hS1 => ?_)
  cases hpost
  obtain ⟨hP1, hK1, hD1⟩ := hB
  rw [ht] at hP1
  exact h v hF0 hq H1 locs1 ls hP1 (hD1.weaken (fun _ _ _ h9 => hF _ h9)) hS1 hl
theorem zr_cSl {X : zz_X} {cc : ByteArray} {own : String} {Ts : List Cond} {k : Nat → ClassId} {nL : Nat} {R : Room} {n n' : Nat × Nat} {pc pc' : Nat} {lv : List (Nat × Value)} {st st0 : List Value} {α : Type} {r : α} {σ : Type} {wf : σ → va_W} {S : σ}  {index maxL na : Nat} {y : MethodName} {bytes : ByteArray} {ret : Option FieldType} {ws ws' : List Cond} {rm : Room}  {As : List Value} {F : Option (Int64 × σ)} {K : Int64 → σ → Option α}
    (C : zz_ok X cc own Ts k nL R) (hM : ∀ (l : Launch) (D : va_G) (v : Int64) (u : σ), F = some (v, u) → zz_ML l y ws rm D k wf As S (v, u)) (hG : GoodIn Ts (va_wsS own index y ws)) (hw : ws = Cond.code y bytes maxL ret :: ws') (hd9 : y.cls ≠ "java/lang/invoke/MethodHandle" ∧ y.cls ≠ "java/lang/invoke/VarHandle" ∧ (parseMethodDescriptor y.desc).map (fun d => d.parameters.length) = some na)
    (hR : rm.frames + 1 ≤ R.frames ∧ 8 + (maxL + 11) + rm.locals ≤ R.locals) (hrc : n.1 + rm.cells ≤ R.cells ∧ n.2 + rm.slots ≤ R.slots) (hn : As.length = na)  (hst : (st.map fun v => v.category).sum ≤ 8) (hs : As.reverse ++ st = st0)
    (hd : decode cc pc = .ok (.invokestatic index, 3)) (hp : pc + 3 = pc') (hn' : (n.1 + rm.cells, n.2 + rm.slots) = n') (hq : zz_b2 F K = some r) (h : ∀ (v : Int64) (u : σ), F = some (v, u) → K v u = some r → zz_ww X n' (wf u) pc' lv (.long v :: st)) : zz_ww X n (wf S) pc lv st0 := by
  subst hp
  subst hs
  subst hn'
  obtain ⟨p, l, e, R0, s, m, args, below, meth, c, D, A, nL0, Q⟩ := X
  obtain ⟨hx, hb, hml, hown, hts, hK, hA, hlk, en, eR⟩ := C
  subst en eR
  intro H locs ls hP hD hS hl
  obtain ⟨v, u, hF0, hq⟩ := zz_b2_some hq
  have hF : ∀ q, va_A (wf S) H.size q → A q := fun q hq => hq.elim (fun ⟨k9, e9, h9⟩ => hD.2 k9 (q, e9) h9) (fun h9 => hA q (Nat.le_trans hS.1 h9))
  refine va_calll (va_runS (As := As) (rest := st) ⟨hx, hb, hml, hown, hts⟩ (hM l D v u hF0 H.size) (va_cwS na hts hG hw rfl rfl hd9 hR) ⟨zz_blind, fun U hU hW => ⟨rfl, by rw [hU], by rw [hU]; exact hP, va_K.moved hW.alike hK, hD.weaken (fun _ _ _ _ => trivial)⟩⟩ rfl hn hl.1 rfl (lv_room hst) hd hrc) hS (fun q _ h => hF q h) hF (fun v9 u9 t H1 locs1 ht hvm hpost hB hz1 hk1 hS1 => ?_)
  cases hpost
  obtain ⟨hP1, hK1, hD1⟩ := hB
  rw [ht] at hP1
  exact h v u hF0 hq H1 locs1 ls hP1 (hD1.weaken (fun _ _ _ h9 => hF _ h9)) hS1 hl
theorem zr_cSlr {X : zz_X} {cc : ByteArray} {own : String} {Ts : List Cond} {k : Nat → ClassId} {nL : Nat} {R : Room} {n n' : Nat × Nat} {pc pc' : Nat} {lv : List (Nat × Value)} {st st0 : List Value} {α : Type} {r : α} {σ : Type} {wf : σ → va_W} {S : σ}  {index maxL na : Nat} {y : MethodName} {bytes : ByteArray} {ret : Option FieldType} {ws ws' : List Cond} {rm : Room}  {As : List Value} {F : Option Int64} {K : Int64 → Option α}
    (C : zz_ok X cc own Ts k nL R) (hM : ∀ (l : Launch) (D : va_G) (v : Int64), F = some v → zz_ML l y ws rm D k wf As S (v, S)) (hG : GoodIn Ts (va_wsS own index y ws)) (hw : ws = Cond.code y bytes maxL ret :: ws') (hd9 : y.cls ≠ "java/lang/invoke/MethodHandle" ∧ y.cls ≠ "java/lang/invoke/VarHandle" ∧ (parseMethodDescriptor y.desc).map (fun d => d.parameters.length) = some na)
    (hR : rm.frames + 1 ≤ R.frames ∧ 8 + (maxL + 11) + rm.locals ≤ R.locals) (hrc : n.1 + rm.cells ≤ R.cells ∧ n.2 + rm.slots ≤ R.slots) (hn : As.length = na)  (hst : (st.map fun v => v.category).sum ≤ 8) (hs : As.reverse ++ st = st0)
    (hd : decode cc pc = .ok (.invokestatic index, 3)) (hp : pc + 3 = pc') (hn' : (n.1 + rm.cells, n.2 + rm.slots) = n') (hq : zz_b1 F K = some r) (h : ∀ v : Int64, F = some v → K v = some r → zz_ww X n' (wf S) pc' lv (.long v :: st)) : zz_ww X n (wf S) pc lv st0 := by
  subst hp
  subst hs
  subst hn'
  obtain ⟨p, l, e, R0, s, m, args, below, meth, c, D, A, nL0, Q⟩ := X
  obtain ⟨hx, hb, hml, hown, hts, hK, hA, hlk, en, eR⟩ := C
  subst en eR
  intro H locs ls hP hD hS hl
  obtain ⟨v, hF0, hq⟩ := zz_b1_some hq
  have hF : ∀ q, va_A (wf S) H.size q → A q := fun q hq => hq.elim (fun ⟨k9, e9, h9⟩ => hD.2 k9 (q, e9) h9) (fun h9 => hA q (Nat.le_trans hS.1 h9))
  refine va_calll (va_runS (As := As) (rest := st) ⟨hx, hb, hml, hown, hts⟩ (hM l D v hF0 H.size) (va_cwS na hts hG hw rfl rfl hd9 hR) ⟨zz_blind, fun U hU hW => ⟨rfl, by rw [hU], by rw [hU]; exact hP, va_K.moved hW.alike hK, hD.weaken (fun _ _ _ _ => trivial)⟩⟩ rfl hn hl.1 rfl (lv_room hst) hd hrc) hS (fun q _ h => hF q h) hF (fun v9 u9 t H1 locs1 ht hvm hpost hB hz1 hk1 hS1 => ?_)
  cases hpost
  obtain ⟨hP1, hK1, hD1⟩ := hB
  rw [ht] at hP1
  exact h v hF0 hq H1 locs1 ls hP1 (hD1.weaken (fun _ _ _ h9 => hF _ h9)) hS1 hl
theorem zr_cVv {X : zz_X} {cc : ByteArray} {own : String} {Ts : List Cond} {k : Nat → ClassId} {nL : Nat} {R : Room} {n n' : Nat × Nat} {pc pc' : Nat} {lv : List (Nat × Value)} {st st0 : List Value} {α : Type} {r : α} {σ : Type} {wf : σ → va_W} {S : σ} {Cn : String} {index maxL na : Nat} {y : MethodName} {bytes : ByteArray} {ret : Option FieldType} {ws ws' : List Cond} {rm : Room} {b : Nat} {As : List Value} {F : Option σ} {K : σ → Option α}
    (C : zz_ok X cc own Ts k nL R) (hM : ∀ (l : Launch) (D : va_G) (u : σ), F = some u → zz_MV l y ws rm D k wf (.ref b :: As) S u) (hG : GoodIn Ts (wsV own index Cn y ws)) (hw : ws = Cond.code y bytes maxL ret :: ws') (hd9 : y.cls = Cn ∧ y.cls ≠ "java/lang/invoke/MethodHandle" ∧ y.cls ≠ "java/lang/invoke/VarHandle" ∧ (parseMethodDescriptor y.desc).map (fun d => d.parameters.length) = some na)
    (hR : rm.frames + 1 ≤ R.frames ∧ 8 + (maxL + 11) + rm.locals ≤ R.locals) (hrc : n.1 + rm.cells ≤ R.cells ∧ n.2 + rm.slots ≤ R.slots) (hn : As.length = na) (hrv : ∃ (q0 ci : Nat) (fs : List Value) (T : u_T) (N : Nat), (wf S)[q0]? = some (b, .inr (ci, fs)) ∧ zz_cl[ci]? = some (Cn, T, N)) (hst : (st.map fun v => v.category).sum ≤ 8) (hs : As.reverse ++ .ref b :: st = st0)
    (hd : decode cc pc = .ok (.invokevirtual index, 3)) (hp : pc + 3 = pc') (hn' : (n.1 + rm.cells, n.2 + rm.slots) = n') (hq : zz_b1 F K = some r) (h : ∀ u : σ, F = some u → K u = some r → zz_ww X n' (wf u) pc' lv st) : zz_ww X n (wf S) pc lv st0 := by
  subst hp
  subst hs
  subst hn'
  obtain ⟨p, l, e, R0, s, m, args, below, meth, c, D, A, nL0, Q⟩ := X
  obtain ⟨hx, hb, hml, hown, hts, hK, hA, hlk, en, eR⟩ := C
  subst en eR
  intro H locs ls hP hD hS hl
  obtain ⟨u, hF0, hq⟩ := zz_b1_some hq
  have hF : ∀ q, va_A (wf S) H.size q → A q := fun q hq => hq.elim (fun ⟨k9, e9, h9⟩ => hD.2 k9 (q, e9) h9) (fun h9 => hA q (Nat.le_trans hS.1 h9))
  refine va_callv (va_runV (As := As) (rest := st) ⟨hx, hb, hml, hown, hts⟩ (hM l D u hF0 H.size) (cwV na hts hG hw rfl rfl hd9 hR) ⟨zz_blind, (by obtain ⟨q0, ci, fs, T, N, he, hc⟩ := hrv; exact va_recv hK hP hc he), fun U hU hW => ⟨rfl, by rw [hU], by rw [hU]; exact hP, va_K.moved hW.alike hK, hD.weaken (fun _ _ _ _ => trivial)⟩⟩ rfl hn hl.1 rfl (lv_room hst) hd hrc) hS (fun q _ h => hF q h) hF (fun u9 t H1 locs1 ht hvm hpost hB hz1 hk1 hS1 => ?_)
  cases hpost
  obtain ⟨hP1, hK1, hD1⟩ := hB
  rw [ht] at hP1
  exact h u hF0 hq H1 locs1 ls hP1 (hD1.weaken (fun _ _ _ h9 => hF _ h9)) hS1 hl
theorem zr_cSv {X : zz_X} {cc : ByteArray} {own : String} {Ts : List Cond} {k : Nat → ClassId} {nL : Nat} {R : Room} {n n' : Nat × Nat} {pc pc' : Nat} {lv : List (Nat × Value)} {st st0 : List Value} {α : Type} {r : α} {σ : Type} {wf : σ → va_W} {S : σ}  {index maxL na : Nat} {y : MethodName} {bytes : ByteArray} {ret : Option FieldType} {ws ws' : List Cond} {rm : Room}  {As : List Value} {F : Option σ} {K : σ → Option α}
    (C : zz_ok X cc own Ts k nL R) (hM : ∀ (l : Launch) (D : va_G) (u : σ), F = some u → zz_MV l y ws rm D k wf As S u) (hG : GoodIn Ts (va_wsS own index y ws)) (hw : ws = Cond.code y bytes maxL ret :: ws') (hd9 : y.cls ≠ "java/lang/invoke/MethodHandle" ∧ y.cls ≠ "java/lang/invoke/VarHandle" ∧ (parseMethodDescriptor y.desc).map (fun d => d.parameters.length) = some na)
    (hR : rm.frames + 1 ≤ R.frames ∧ 8 + (maxL + 11) + rm.locals ≤ R.locals) (hrc : n.1 + rm.cells ≤ R.cells ∧ n.2 + rm.slots ≤ R.slots) (hn : As.length = na)  (hst : (st.map fun v => v.category).sum ≤ 8) (hs : As.reverse ++ st = st0)
    (hd : decode cc pc = .ok (.invokestatic index, 3)) (hp : pc + 3 = pc') (hn' : (n.1 + rm.cells, n.2 + rm.slots) = n') (hq : zz_b1 F K = some r) (h : ∀ u : σ, F = some u → K u = some r → zz_ww X n' (wf u) pc' lv st) : zz_ww X n (wf S) pc lv st0 := by
  subst hp
  subst hs
  subst hn'
  obtain ⟨p, l, e, R0, s, m, args, below, meth, c, D, A, nL0, Q⟩ := X
  obtain ⟨hx, hb, hml, hown, hts, hK, hA, hlk, en, eR⟩ := C
  subst en eR
  intro H locs ls hP hD hS hl
  obtain ⟨u, hF0, hq⟩ := zz_b1_some hq
  have hF : ∀ q, va_A (wf S) H.size q → A q := fun q hq => hq.elim (fun ⟨k9, e9, h9⟩ => hD.2 k9 (q, e9) h9) (fun h9 => hA q (Nat.le_trans hS.1 h9))
  refine va_callv (va_runS (As := As) (rest := st) ⟨hx, hb, hml, hown, hts⟩ (hM l D u hF0 H.size) (va_cwS na hts hG hw rfl rfl hd9 hR) ⟨zz_blind, fun U hU hW => ⟨rfl, by rw [hU], by rw [hU]; exact hP, va_K.moved hW.alike hK, hD.weaken (fun _ _ _ _ => trivial)⟩⟩ rfl hn hl.1 rfl (lv_room hst) hd hrc) hS (fun q _ h => hF q h) hF (fun u9 t H1 locs1 ht hvm hpost hB hz1 hk1 hS1 => ?_)
  cases hpost
  obtain ⟨hP1, hK1, hD1⟩ := hB
  rw [ht] at hP1
  exact h u hF0 hq H1 locs1 ls hP1 (hD1.weaken (fun _ _ _ h9 => hF _ h9)) hS1 hl

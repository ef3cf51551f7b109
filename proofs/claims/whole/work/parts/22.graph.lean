/-! Walks and least costs -/
def pz_wk (E : Nat → Nat → Nat → Prop) (T : Nat → Prop) : Nat → Nat → Nat → Prop
  | 0, c, v => T c ∧ v = 0
  | k + 1, c, v => pz_wk E T k c v ∨ ∃ b a w, pz_wk E T k b a ∧ E b c w ∧ v = a + w
def pz_D (E : Nat → Nat → Nat → Prop) (T : Nat → Prop) (c v : Nat) : Prop := ∃ k, pz_wk E T k c v
theorem pz_D_tree {E : Nat → Nat → Nat → Prop} {T : Nat → Prop} {c : Nat} (h : T c) : pz_D E T c 0 := ⟨0, h, rfl⟩
theorem pz_D_step {E : Nat → Nat → Nat → Prop} {T : Nat → Prop} {b c a w : Nat} (h : pz_D E T b a) (he : E b c w) : pz_D E T c (a + w) := by
  obtain ⟨k, hk⟩ := h
  exact ⟨k + 1, Or.inr ⟨b, a, w, hk, he, rfl⟩⟩
theorem pz_D_ind {E : Nat → Nat → Nat → Prop} {T : Nat → Prop} {Q : Nat → Nat → Prop} (h0 : ∀ c, T c → Q c 0)
    (h1 : ∀ b c a w, pz_D E T b a → Q b a → E b c w → Q c (a + w)) {c v : Nat} (h : pz_D E T c v) : Q c v := by
  obtain ⟨k, hk⟩ := h
  induction k generalizing c v with
  | zero => obtain ⟨h, rfl⟩ := hk; exact h0 c h
  | succ k ih =>
    rcases hk with hk | ⟨b, a, w, hk, he, rfl⟩
    · exact ih hk
    · exact h1 b c a w ⟨k, hk⟩ (ih hk) he
theorem pz_D_cases {E : Nat → Nat → Nat → Prop} {T : Nat → Prop} {c v : Nat} (h : pz_D E T c v) : (T c ∧ v = 0) ∨ ∃ b a w, pz_D E T b a ∧ E b c w ∧ v = a + w :=
  pz_D_ind (Q := fun c v => (T c ∧ v = 0) ∨ ∃ b a w, pz_D E T b a ∧ E b c w ∧ v = a + w) (fun c h => Or.inl ⟨h, rfl⟩) (fun b c a w hb _ he => Or.inr ⟨b, a, w, hb, he, rfl⟩) h
def pz_mn (E : Nat → Nat → Nat → Prop) (T : Nat → Prop) (c v : Nat) : Prop := pz_D E T c v ∧ ∀ u, pz_D E T c u → v ≤ u
theorem pz_mn_ex {E : Nat → Nat → Nat → Prop} {T : Nat → Prop} {c v : Nat} (h : pz_D E T c v) : ∃ u, u ≤ v ∧ pz_mn E T c u := by
  induction v using Nat.strongRecOn with
  | ind v ih =>
    by_cases hx : ∃ u, u < v ∧ pz_D E T c u
    · obtain ⟨u, hu, hd⟩ := hx
      obtain ⟨u', h1, h2⟩ := ih u hu hd
      exact ⟨u', by omega, h2⟩
    · refine ⟨v, Nat.le_refl _, h, fun u hu => ?_⟩
      by_cases hq : v ≤ u
      · exact hq
      · exact absurd ⟨u, by omega, hu⟩ hx
theorem pz_mn_uq {E : Nat → Nat → Nat → Prop} {T : Nat → Prop} {c v u : Nat} (h : pz_mn E T c v) (h' : pz_mn E T c u) : v = u := by
  have h1 := h.2 u h'.1
  have h2 := h'.2 v h.1
  omega
theorem pz_mn_last {E : Nat → Nat → Nat → Prop} {T : Nat → Prop} {c v : Nat} (h : pz_mn E T c v) : (T c ∧ v = 0) ∨ ∃ b a w, pz_mn E T b a ∧ E b c w ∧ v = a + w := by
  rcases pz_D_cases h.1 with h1 | ⟨b, a, w, hb, he, rfl⟩
  · exact Or.inl h1
  · obtain ⟨a', ha, hm⟩ := pz_mn_ex hb
    have h3 := h.2 _ (pz_D_step hm.1 he)
    have : a' = a := by omega
    subst this
    exact Or.inr ⟨b, a', w, hm, he, rfl⟩
def pz_ok (E : Nat → Nat → Nat → Prop) (T : Nat → Prop) (d : Nat → Option Nat) : Prop := (∀ c v, d c = some v → pz_D E T c v) ∧ ∀ c, T c → d c = some 0
def pz_rx (E : Nat → Nat → Nat → Prop) (d d' : Nat → Option Nat) (b : Nat) : Prop := ∀ c w a, E b c w → d b = some a → ∃ v, d' c = some v ∧ v ≤ a + w
/-- closed: all is relaxed -/
theorem pz_exact {E : Nat → Nat → Nat → Prop} {T : Nat → Prop} {d : Nat → Option Nat} (ho : pz_ok E T d) (hr : ∀ b, pz_rx E d d b) (c v : Nat) : d c = some v ↔ pz_mn E T c v := by
  have hle : ∀ {c v}, pz_D E T c v → ∃ u, d c = some u ∧ u ≤ v := by
    intro c v h
    refine pz_D_ind (Q := fun c v => ∃ u, d c = some u ∧ u ≤ v) (fun c h => ⟨0, ho.2 c h, Nat.le_refl _⟩) ?_ h
    intro b c a w _ hb he
    obtain ⟨u, h1, h2⟩ := hb
    obtain ⟨u', h3, h4⟩ := hr b c w u he h1
    exact ⟨u', h3, by omega⟩
  constructor
  · intro h
    refine ⟨ho.1 c v h, fun u hu => ?_⟩
    obtain ⟨u', h1, h2⟩ := hle hu
    rw [h] at h1
    cases h1
    exact h2
  · intro h
    obtain ⟨u, h1, h2⟩ := hle h.1
    have h3 := h.2 u (ho.1 c u h1)
    have : u = v := by omega
    rw [h1, this]
def pz_lte (d d' : Nat → Option Nat) : Prop := ∀ c v, d c = some v → ∃ u, d' c = some u ∧ u ≤ v
theorem pz_lte_refl (d : Nat → Option Nat) : pz_lte d d := fun _ v h => ⟨v, h, Nat.le_refl _⟩
theorem pz_lte_trans {d d' d'' : Nat → Option Nat} (h : pz_lte d d') (h' : pz_lte d' d'') : pz_lte d d'' := by
  intro c v hv
  obtain ⟨u, h1, h2⟩ := h c v hv
  obtain ⟨t, h3, h4⟩ := h' c u h1
  exact ⟨t, h3, by omega⟩
def pz_ex (E : Nat → Nat → Nat → Prop) (T : Nat → Prop) (d : Nat → Option Nat) (c : Nat) : Prop := ∀ v, pz_mn E T c v → d c = some v
noncomputable def pz_exb (E : Nat → Nat → Nat → Prop) (T : Nat → Prop) (d : Nat → Option Nat) (c : Nat) : Bool := @decide (pz_ex E T d c) (Classical.propDecidable _)
theorem pz_exb_t {E : Nat → Nat → Nat → Prop} {T : Nat → Prop} {d : Nat → Option Nat} {c : Nat} : pz_exb E T d c = true ↔ pz_ex E T d c := by
  unfold pz_exb
  exact @decide_eq_true_iff _ (Classical.propDecidable _)
theorem pz_exb_f {E : Nat → Nat → Nat → Prop} {T : Nat → Prop} {d : Nat → Option Nat} {c : Nat} : pz_exb E T d c = false ↔ ¬ pz_ex E T d c := by
  rw [← pz_exb_t]
  simp
theorem pz_ex_mono {E : Nat → Nat → Nat → Prop} {T : Nat → Prop} {d d' : Nat → Option Nat} (ho' : pz_ok E T d') (hl : pz_lte d d') {c : Nat} (h : pz_ex E T d c) : pz_ex E T d' c := by
  intro v hv
  obtain ⟨u, h1, h2⟩ := hl c v (h v hv)
  have h3 := hv.2 u (ho'.1 c u h1)
  have : u = v := by omega
  rw [h1, this]
/-- a pass that relaxes every edge makes one more cell exact, or all are -/
theorem pz_pass {E : Nat → Nat → Nat → Prop} {T : Nat → Prop} {d d' : Nat → Option Nat} {z : Nat} (hE : ∀ b c w, E b c w → c < z ∧ 0 < w) (hT : ∀ c, T c → c < z)
    (ho : pz_ok E T d) (ho' : pz_ok E T d') (hl : pz_lte d d') (hr : ∀ b, pz_rx E d d' b) {c0 : Nat} (hc0 : ¬ pz_ex E T d c0) :
    pz_cnt (pz_exb E T d) z < pz_cnt (pz_exb E T d') z := by
  have key : ∀ v c, pz_mn E T c v → ¬ pz_ex E T d c → ∃ c', c' < z ∧ ¬ pz_ex E T d c' ∧ pz_ex E T d' c' := by
    intro v
    induction v using Nat.strongRecOn with
    | ind v ih =>
      intro c hm hx
      rcases pz_mn_last hm with ⟨h1, rfl⟩ | ⟨b, a, w, hb, he, rfl⟩
      · exfalso
        apply hx
        intro u hu
        rw [pz_mn_uq hu hm]
        exact ho.2 c h1
      · have hw := hE b c w he
        by_cases hbx : pz_ex E T d b
        · refine ⟨c, hw.1, hx, ?_⟩
          intro u hu
          have : u = a + w := pz_mn_uq hu hm
          subst this
          obtain ⟨t, h1, h2⟩ := hr b c w a he (hbx a hb)
          have h3 := hm.2 t (ho'.1 c t h1)
          have : t = a + w := by omega
          rw [h1, this]
        · exact ih a (by omega) b hb hbx
  have hv : ∃ v, pz_mn E T c0 v := by
    by_cases h : ∃ v, pz_mn E T c0 v
    · exact h
    · exact absurd (fun v hv => absurd ⟨v, hv⟩ h) hc0
  obtain ⟨v, hv⟩ := hv
  obtain ⟨c', h1, h2, h3⟩ := key v c0 hv hc0
  exact pz_cnt_lt (fun c _ h => pz_exb_t.mpr (pz_ex_mono ho' hl (pz_exb_t.mp h))) h1 (pz_exb_f.mpr h2) (pz_exb_t.mpr h3)
/-- the search that goes on from the nearest: exact up to the bound -/
theorem pz_near {E : Nat → Nat → Nat → Prop} {T : Nat → Prop} {d : Nat → Option Nat} {X : Nat → Prop} {ds : Nat} (hE : ∀ b c w, E b c w → 0 < w)
    (ho : pz_ok E T d) (hX : ∀ b, X b → pz_rx E d d b) (hN : ∀ c u, d c = some u → ¬ X c → ds ≤ u) {c v : Nat} (h : pz_D E T c v) (hv : v ≤ ds) : ∃ u, d c = some u ∧ u ≤ v := by
  revert hv
  refine pz_D_ind (Q := fun c v => v ≤ ds → ∃ u, d c = some u ∧ u ≤ v) (fun c h _ => ⟨0, ho.2 c h, Nat.le_refl _⟩) ?_ h
  intro b c a w _ hb he hle
  have hw := hE b c w he
  obtain ⟨u, h1, h2⟩ := hb (by omega)
  by_cases hx : X b
  · obtain ⟨t, h3, h4⟩ := hX b hx c w u he h1
    exact ⟨t, h3, by omega⟩
  · have := hN b u h1 hx
    omega
theorem pz_near_mn {E : Nat → Nat → Nat → Prop} {T : Nat → Prop} {d : Nat → Option Nat} {X : Nat → Prop} {ds : Nat} (hE : ∀ b c w, E b c w → 0 < w)
    (ho : pz_ok E T d) (hX : ∀ b, X b → pz_rx E d d b) (hN : ∀ c u, d c = some u → ¬ X c → ds ≤ u) {c v : Nat} (hv : v ≤ ds) : d c = some v ↔ pz_mn E T c v := by
  constructor
  · intro h
    refine ⟨ho.1 c v h, fun u hu => ?_⟩
    by_cases hq : v ≤ u
    · exact hq
    · obtain ⟨t, h1, h2⟩ := pz_near hE ho hX hN hu (by omega)
      rw [h] at h1
      cases h1
      omega
  · intro h
    obtain ⟨u, h1, h2⟩ := pz_near hE ho hX hN h.1 hv
    have h3 := h.2 u (ho.1 c u h1)
    have : u = v := by omega
    rw [h1, this]

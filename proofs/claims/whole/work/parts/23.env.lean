/-! The search's surroundings, the same for the class and the reference -/
theorem pz_T_jn1_cut {A0 α : Type} {J : A0 → Option α} {b : (A0 → Option α) → Option α} {P : α → Prop} (Q : A0 → Prop) (hJ : ∀ x, Q x → pz_T (J x) P) (hb : ∀ j : A0 → Option α, (∀ x, Q x → pz_T (j x) P) → pz_T (b j) P) : pz_T (zz_jn1 J b) P := hb J hJ
theorem pz_T_jn2_cut {A0 A1 α : Type} {J : A0 → A1 → Option α} {b : (A0 → A1 → Option α) → Option α} {P : α → Prop} (Q : A0 → A1 → Prop) (hJ : ∀ x y, Q x y → pz_T (J x y) P) (hb : ∀ j : A0 → A1 → Option α, (∀ x y, Q x y → pz_T (j x y) P) → pz_T (b j) P) : pz_T (zz_jn2 J b) P := hb J hJ
theorem pz_fixm1 {A0 α : Type} {F : (A0 → Option α) → A0 → Option α} {P : α → Prop} (I : Nat → A0 → Prop)
    (hb : ∀ rc m x, I m x → (∀ m' y, m' < m → I m' y → pz_T (rc y) P) → pz_T (F rc x) P) : ∀ k m x, I m x → m < k → pz_T (zz_fix1 F k x) P := by
  intro k
  induction k with
  | zero => intro m x _ h; omega
  | succ k ih => intro m x hi hm; exact hb _ m x hi (fun m' y hlt hy => ih m' y hy (by omega))
theorem pz_fixm2 {A0 A1 α : Type} {F : (A0 → A1 → Option α) → A0 → A1 → Option α} {P : α → Prop} (I : Nat → A0 → A1 → Prop)
    (hb : ∀ rc m x0 x1, I m x0 x1 → (∀ m' y0 y1, m' < m → I m' y0 y1 → pz_T (rc y0 y1) P) → pz_T (F rc x0 x1) P) : ∀ k m x0 x1, I m x0 x1 → m < k → pz_T (zz_fix2 F k x0 x1) P := by
  intro k
  induction k with
  | zero => intro m x0 x1 _ h; omega
  | succ k ih => intro m x0 x1 hi hm; exact hb _ m x0 x1 hi (fun m' y0 y1 hlt hy => ih m' y0 y1 hy (by omega))
theorem pz_fixm3 {A0 A1 A2 α : Type} {F : (A0 → A1 → A2 → Option α) → A0 → A1 → A2 → Option α} {P : α → Prop} (I : Nat → A0 → A1 → A2 → Prop)
    (hb : ∀ rc m x0 x1 x2, I m x0 x1 x2 → (∀ m' y0 y1 y2, m' < m → I m' y0 y1 y2 → pz_T (rc y0 y1 y2) P) → pz_T (F rc x0 x1 x2) P) : ∀ k m x0 x1 x2, I m x0 x1 x2 → m < k → pz_T (zz_fix3 F k x0 x1 x2) P := by
  intro k
  induction k with
  | zero => intro m x0 x1 x2 _ h; omega
  | succ k ih => intro m x0 x1 x2 hi hm; exact hb _ m x0 x1 x2 hi (fun m' y0 y1 y2 hlt hy => ih m' y0 y1 y2 hy (by omega))
def pz_b (b : Bool) : Int32 := if b then 1 else 0
theorem pz_b_t : pz_b true = 1 := rfl
theorem pz_b_f : pz_b false = 0 := rfl
theorem pz_b_0 {b : Bool} : (pz_b b = 0) = (b = false) := by cases b <;> simp [pz_b]
theorem pz_b_bl {b : Bool} : zz_bl (pz_b b) = true := by cases b <;> decide
/-- barred, pins, foreign; history; across, via, near -/
abbrev pz_Env : Type := ((Nat → Int32) × (Nat → Int32) × (Nat → Bool)) × (Nat → Nat) × ((Nat → Nat) × (Nat → Nat) × (Nat → Nat))
def pe_bar (e : pz_Env) : Nat → Int32 := e.1.1
def pe_pin (e : pz_Env) : Nat → Int32 := e.1.2.1
def pe_fg (e : pz_Env) : Nat → Bool := e.1.2.2
def pe_hist (e : pz_Env) : Nat → Nat := e.2.1
def pe_ac (e : pz_Env) : Nat → Nat := e.2.2.1
def pe_via (e : pz_Env) : Nat → Nat := e.2.2.2.1
def pe_nr (e : pz_Env) : Nat → Nat := e.2.2.2.2
def pz_ev (W H D : Nat) (e : pz_Env) : Prop := pz_siz W H D ∧ (∀ l, l < 4 → pe_ac e l ≤ 50 ∧ pe_via e l ≤ 50 ∧ pe_nr e l ≤ 50) ∧ ∀ c, c < W * H * D → pe_hist e c ≤ 1000000000
def pz_can (e : pz_Env) (rip : Bool) (d : Nat) : Bool := decide (pe_bar e d = 0) && (!(pe_fg e d) || (rip && decide (pe_pin e d = 0)))
def pz_mv (A : Nat) (e : pz_Env) (c n : Nat) : Nat := if n = 0 then pe_via e (c / A - 1) else if n = 5 then pe_via e (c / A) else if (n = 1 ∨ n = 4) ↔ c / A % 2 = 0 then pe_ac e (c / A) else 0
def pz_f1 (W H D : Nat) (e : pz_Env) (d m : Nat) : Nat := match pz_nb W H D d m with
  | some x => if pe_fg e x then 1 else 0
  | none => 0
def pz_ps (W H D : Nat) (e : pz_Env) (d : Nat) : Nat → Nat
  | 0 => 0
  | m + 1 => pz_ps W H D e d m + pz_f1 W H D e d (m + 1)
def pz_tl (W H D : Nat) (e : pz_Env) (rip : Bool) (d : Nat) : Nat := pe_hist e d + (if rip && pe_fg e d then 100 else 0) + pe_nr e (d / (W * H)) * pz_ps W H D e d 4
def pz_wt (W H D : Nat) (e : pz_Env) (rip : Bool) (c n d : Nat) : Nat := 2 + pz_mv (W * H) e c n + pz_tl W H D e rip d
def pz_E (W H D : Nat) (e : pz_Env) (rip : Bool) (b c w : Nat) : Prop := b < W * H * D ∧ ∃ n, n < 6 ∧ pz_nb W H D b n = some c ∧ pz_can e rip c = true ∧ w = pz_wt W H D e rip b n c
theorem pz_f1_le {W H D : Nat} {e : pz_Env} {d m : Nat} : pz_f1 W H D e d m ≤ 1 := by
  unfold pz_f1
  split
  · split <;> omega
  · omega
theorem pz_ps_le {W H D : Nat} {e : pz_Env} {d : Nat} (m : Nat) : pz_ps W H D e d m ≤ m := by
  induction m with
  | zero => simp [pz_ps]
  | succ m ih => have := pz_f1_le (W := W) (H := H) (D := D) (e := e) (d := d) (m := m + 1); simp only [pz_ps]; omega
theorem pz_lay4 {W H D c : Nat} (hs : pz_siz W H D) (hc : c < W * H * D) : c / (W * H) < 4 := by
  have := Nat.div_lt_of_lt_mul hc
  have := hs.2.2.2.2.2.2.2
  omega
theorem pz_tl_le {W H D : Nat} {e : pz_Env} (he : pz_ev W H D e) {rip : Bool} {d : Nat} (hd : d < W * H * D) : pz_tl W H D e rip d ≤ 1000000300 := by
  obtain ⟨hs, h1, h2⟩ := he
  have h3 := (h1 _ (pz_lay4 hs hd)).2.2
  have h4 := h2 d hd
  have h5 : pe_nr e (d / (W * H)) * pz_ps W H D e d 4 ≤ 50 * 4 := Nat.mul_le_mul h3 (pz_ps_le 4)
  unfold pz_tl
  split <;> omega
theorem pz_wt_le {W H D : Nat} {e : pz_Env} (he : pz_ev W H D e) {rip : Bool} {c n d : Nat} (hc : c < W * H * D) (hd : d < W * H * D) : pz_wt W H D e rip c n d ≤ 2000000000 := by
  have h1 := pz_tl_le he (rip := rip) hd
  obtain ⟨hs, h3, h2⟩ := he
  have h4 := pz_lay4 hs hc
  have h5 := h3 _ h4
  have h6 := h3 (c / (W * H) - 1) (by omega)
  unfold pz_wt pz_mv
  repeat' split
  all_goals omega
theorem pz_E_ok {W H D : Nat} {e : pz_Env} (he : pz_ev W H D e) {rip : Bool} {b c w : Nat} (h : pz_E W H D e rip b c w) : c < W * H * D ∧ 0 < w := by
  obtain ⟨hb, n, hn, h1, h2, rfl⟩ := h
  refine ⟨pz_nb_lt he.1.1 he.1.2.1 hb h1, ?_⟩
  unfold pz_wt
  omega
/-- rows of distances -/
def pz_rb (z : Nat) (d : Nat → Option Nat) : Prop := ∀ c v, d c = some v → c < z ∧ v ≤ 2000000000 * pz_cnt (fun c => (d c).isSome) z
theorem pz_rb_le {z : Nat} (hz : z ≤ 1024) {d : Nat → Option Nat} (h : pz_rb z d) {c v : Nat} (hc : d c = some v) : v ≤ 2048000000000 := by
  have h1 := (h c v hc).2
  have h2 := pz_cnt_le (fun c => (d c).isSome) z
  omega
def pz_du (d : Nat → Option Nat) (c v : Nat) : Nat → Option Nat := fun j => if j = c then some v else d j
theorem pz_du_s {d : Nat → Option Nat} {c v : Nat} : pz_du d c v c = some v := by simp [pz_du]
theorem pz_du_n {d : Nat → Option Nat} {c v j : Nat} (h : j ≠ c) : pz_du d c v j = d j := by simp [pz_du, h]
theorem pz_lte_du {d : Nat → Option Nat} {c v : Nat} (h : ∀ u, d c = some u → v ≤ u) : pz_lte d (pz_du d c v) := by
  intro j u hu
  by_cases hj : j = c
  · subst hj
    exact ⟨v, pz_du_s, h u hu⟩
  · exact ⟨u, by rw [pz_du_n hj]; exact hu, Nat.le_refl _⟩
theorem pz_rb_du {z : Nat} {d : Nat → Option Nat} (h : pz_rb z d) {b a c v : Nat} (hc : c < z) (hb : d b = some a) (hv : v ≤ a + 2000000000) (hl : ∀ u, d c = some u → v ≤ u) : pz_rb z (pz_du d c v) := by
  have hm : pz_cnt (fun c => (d c).isSome) z ≤ pz_cnt (fun j => (pz_du d c v j).isSome) z := by
    apply pz_cnt_mono
    intro j _ hj
    by_cases hq : j = c
    · subst hq; simp [pz_du]
    · simp only [pz_du_n hq]; exact hj
  intro j u hu
  by_cases hj : j = c
  · subst hj
    rw [pz_du_s] at hu
    cases hu
    refine ⟨hc, ?_⟩
    cases hx : d j with
    | none =>
      have h1 := (h b a hb).2
      have h2 := pz_cnt_lt (P := fun c => (d c).isSome) (Q := fun i => (pz_du d j v i).isSome) (n := z) (c0 := j) (by
        intro i _ hi
        by_cases hq : i = j
        · subst hq; simp [pz_du]
        · simp only [pz_du_n hq]; exact hi) hc (by simp [hx]) (by simp [pz_du])
      omega
    | some t =>
      have h1 := (h j t hx).2
      have h2 := hl t hx
      omega
  · rw [pz_du_n hj] at hu
    have h1 := h j u hu
    exact ⟨h1.1, by omega⟩
theorem pz_ok_du {E : Nat → Nat → Nat → Prop} {T : Nat → Prop} {d : Nat → Option Nat} (h : pz_ok E T d) {b a c w : Nat} (hb : d b = some a) (he : E b c w) (hl : ∀ u, d c = some u → a + w < u) : pz_ok E T (pz_du d c (a + w)) := by
  constructor
  · intro j v hj
    by_cases hq : j = c
    · subst hq
      rw [pz_du_s] at hj
      cases hj
      exact pz_D_step (h.1 b a hb) he
    · rw [pz_du_n hq] at hj
      exact h.1 j v hj
  · intro j hj
    by_cases hq : j = c
    · subst hq
      have := hl 0 (h.2 j hj)
      omega
    · rw [pz_du_n hq]
      exact h.2 j hj
/-- the reference's rows -/
def pz_menv (W H D : Nat) (e : pz_Env) (k : Int32) (M : zz_St) : Prop := pz_mgeo W H D M ∧ (∀ c, c < W * H * D → zz_ga M 5 c = pe_bar e c ∧ zz_ga M 4 c = pe_pin e c ∧ ((zz_ga M 3 c ≠ -1 ∧ zz_ga M 3 c ≠ k) ↔ pe_fg e c = true) ∧ zz_gA M 6 c = lN (pe_hist e c)) ∧
  ∀ l, l < 4 → zz_ga M 7 l = nI (pe_ac e l) ∧ zz_ga M 8 l = nI (pe_via e l) ∧ zz_ga M 9 l = nI (pe_nr e l)
theorem pz_2l (n : Nat) : (2 : Int64) + lN n = lN (2 + n) := lN_add 2 n
theorem pz_l0 (n : Nat) : lN n + (0 : Int64) = lN n := by
  rw [show ((0 : Int64)) = lN 0 from rfl, lN_add]; rfl
theorem pz_l100 (n : Nat) : lN n + (100 : Int64) = lN (n + 100) := lN_add n 100
theorem pz_m_step {W H D : Nat} {e : pz_Env} (he : pz_ev W H D e) {k : Int32} {M : zz_St} (hm : pz_menv W H D e k M) {N c n d : Nat} (hN : 10 ≤ N) (hc : c < W * H * D) (hn : n < 6) (hnb : pz_nb W H D c n = some d) (rip : Bool) :
    zf_X7_step N M k (nI c) (nI n) (nI d) (pz_b rip) = some (lN (pz_wt W H D e rip c n d)) := by
  obtain ⟨hg, hr, hl⟩ := hm
  have hs := he.1
  have hd := pz_nb_lt hs.1 hs.2.1 hc hnb
  have hz := hs.2.2.2.2.1
  have hlc := pz_lay4 hs hc
  have hld := pz_lay4 hs hd
  have hlay := pz_nb_lay hs.1 hs.2.1 hc hn hnb
  have hev := he.2.1
  have hhd := he.2.2 d hd
  apply pz_eq_of
  unfold zf_X7_step
  simp only [pz_m_layerOf hs hg (show d < 1024 by omega), pz_m_layerOf hs hg (show c < 1024 by omega), pz_T_b1, pz_T_some, pz_T_let]
  refine pz_T_jn1_cut (fun v => v = lN (2 + pz_mv (W * H) e c n)) ?_ ?_
  · rintro _ rfl
    simp only [pz_T_let]
    refine pz_for2r (e := 5) (fun m acc => ∃ t, m = t + 1 ∧ acc = lN (2 + pz_mv (W * H) e c n + pe_nr e (d / (W * H)) * pz_ps W H D e d t)) ?_ N 1 _ (by omega) ⟨0, rfl, by simp [pz_ps]⟩ (by omega)
    rintro rc m acc hm5 ⟨t, rfl, rfl⟩ hrc
    have hnr := (hl _ hld).2.2
    have hnrb := (hev _ hld).2.2
    simp only [pz_T_ite, pz_T_gd, pz_T_jn1, pz_T_some, pz_T_let, pz_T_b1]
    simp (disch := omega) only [pz_c5a, pz_in, nI_clampI, nI_1, hnr, nI_l, (hr d hd).2.2.2, lN_add, pz_l0, pz_l100, pz_b_0]
    refine ⟨fun h5 => ⟨by omega, ?_⟩, fun h5 => ?_⟩
    · have ht : t = 4 := by omega
      subst ht
      have hfd := (hr d hd).2.2.1
      unfold pz_wt pz_tl
      cases rip
      · refine ⟨fun _ => ?_, fun h => absurd rfl h⟩
        congr 1
        simp
        omega
      · refine ⟨fun h => (by cases h), fun _ => ⟨by omega, fun h1 => ?_, fun h1 => ⟨by omega, fun h2 => ?_, fun h2 => ?_⟩⟩⟩
        · have : pe_fg e d = false := by
            cases hq : pe_fg e d
            · rfl
            · exact absurd h1 (hfd.mpr hq).1
          rw [this]; congr 1; simp; omega
        · have : pe_fg e d = false := by
            cases hq : pe_fg e d
            · rfl
            · exact absurd h2 (hfd.mpr hq).2
          rw [this]; congr 1; simp; omega
        · have : pe_fg e d = true := hfd.mp ⟨h1, h2⟩
          rw [this]; congr 1; simp; omega
    · rw [pz_T_eq (pz_m_neighbour hs hg hd (by omega))]
      have key : ∀ x, x = pz_f1 W H D e d (t + 1) → pz_T (rc (lN (2 + pz_mv (W * H) e c n + pe_nr e (d / (W * H)) * pz_ps W H D e d t + pe_nr e (d / (W * H)) * x)) (nI (t + 1 + 1))) fun v => v = lN (pz_wt W H D e rip c n d) := by
        rintro x rfl
        refine hrc (by omega) _ ⟨t + 1, rfl, ?_⟩
        simp only [pz_ps, Nat.mul_add]
        congr 1
        omega
      unfold pz_f1 at key
      cases hx : pz_nb W H D d (t + 1) with
      | none =>
        rw [hx] at key
        simp only [pz_o_n]
        refine ⟨fun _ => ?_, fun h => (h trivial).elim⟩
        have := key 0 rfl
        simpa using this
      | some y =>
        rw [hx] at key
        have hy := pz_nb_lt hs.1 hs.2.1 hd hx
        have hfy := (hr y hy).2.2.1
        simp (disch := omega) only [pz_o_s, pz_nm1, pz_in, nI_clampI]
        refine ⟨fun h => h.elim, fun _ => ⟨by omega, fun h1 => ?_, fun h1 => ⟨by omega, fun h2 => ?_, fun h2 => ⟨by omega, ?_⟩⟩⟩⟩
        · have : pe_fg e y = false := by
            cases hq : pe_fg e y
            · rfl
            · exact absurd h1 (hfy.mpr hq).1
          have := key 0 (by simp [this])
          simpa using this
        · have : pe_fg e y = false := by
            cases hq : pe_fg e y
            · rfl
            · exact absurd h2 (hfy.mpr hq).2
          have := key 0 (by simp [this])
          simpa using this
        · have : pe_fg e y = true := hfy.mp ⟨h1, h2⟩
          have := key 1 (by simp [this])
          simpa using this
  · intro j hj
    have hv := (hl _ hld).2.1
    have hv' := (hl _ hlc).2.1
    have ha := (hl _ hld).1
    have hb1 := hev _ hld
    have hb2 := hev _ hlc
    unfold pz_mv at hj
    simp only [pz_T_ite, pz_T_gd, pz_T_jn1, pz_T_some, pz_T_let, pz_T_b1]
    simp (disch := omega) only [pz_r2, pz_c0e, pz_c1e, pz_c4e, pz_c5e, pz_in, nI_clampI, hv, hv', ha, nI_l, pz_2l, pz_q2, true_and]
    have h20 : (2 : Int64) + 0 = lN (2 + 0) := by decide
    rcases pz_six hn with rfl | rfl | rfl | rfl | rfl | rfl
    · have h9 := hlay.1 rfl
      generalize d / (W * H) = ld at *
      generalize c / (W * H) = lc at *
      have h8 : ld = lc - 1 := by omega
      subst h8
      simp
      exact ⟨by omega, hj _ (by simp)⟩
    · have := hlay.2.2 (by omega) (by omega)
      rw [this] at *
      by_cases hp : c / (W * H) % 2 = 0
      · simp [hp]
        exact ⟨by omega, hj _ (by simp [hp])⟩
      · simp [hp]
        exact hj _ (by simp [hp]; decide)
    · have := hlay.2.2 (by omega) (by omega)
      rw [this] at *
      by_cases hp : c / (W * H) % 2 = 0
      · simp [hp]
        exact hj _ (by simp [hp]; decide)
      · simp [hp]
        exact ⟨by omega, hj _ (by simp [hp])⟩
    · have := hlay.2.2 (by omega) (by omega)
      rw [this] at *
      by_cases hp : c / (W * H) % 2 = 0
      · simp [hp]
        exact hj _ (by simp [hp]; decide)
      · simp [hp]
        exact ⟨by omega, hj _ (by simp [hp])⟩
    · have := hlay.2.2 (by omega) (by omega)
      rw [this] at *
      by_cases hp : c / (W * H) % 2 = 0
      · simp [hp]
        exact ⟨by omega, hj _ (by simp [hp])⟩
      · simp [hp]
        exact hj _ (by simp [hp]; decide)
    · simp
      exact ⟨by omega, hj _ (by simp)⟩
def pz_canO (e : pz_Env) (rip : Bool) (x : Option Nat) : Bool := match x with
  | some d => pz_can e rip d
  | none => false
theorem pz_m_canCome {W H D : Nat} {e : pz_Env} (he : pz_ev W H D e) {k : Int32} {M : zz_St} (hm : pz_menv W H D e k M) {N : Nat} (x : Option Nat) (hx : ∀ d, x = some d → d < W * H * D) (rip : Bool) :
    zf_X7_canCome N M k (pz_o x) (pz_b rip) = some (pz_b (pz_canO e rip x)) := by
  obtain ⟨hg, hr, hl⟩ := hm
  have hs := he.1
  have hz := hs.2.2.2.2.1
  apply pz_eq_of
  unfold zf_X7_canCome
  cases x with
  | none => simp [pz_T_ite, pz_T_gd, pz_T_jn1, pz_T_some, pz_o_n, pz_b, pz_canO]
  | some d =>
    have hd := hx d rfl
    obtain ⟨h1, h2, h3, -⟩ := hr d hd
    simp only [pz_T_ite, pz_T_gd, pz_T_jn1, pz_T_some, pz_T_let]
    simp (disch := omega) only [pz_o_s, pz_nm1, pz_in, nI_clampI, h1, h2, pz_bl0, pz_bl1, true_and, pz_b_0]
    unfold pz_canO pz_can
    by_cases hb : pe_bar e d = 0
    · by_cases hf : pe_fg e d = true
      · obtain ⟨q1, q2⟩ := h3.mpr hf
        by_cases hp : pe_pin e d = 0
        · cases rip <;> simp [hb, hf, hp, q1, q2, pz_b, show d < 1024 by omega]
        · cases rip <;> simp [hb, hf, hp, q1, q2, pz_b, show d < 1024 by omega]
      · have hf' : pe_fg e d = false := by simpa using hf
        by_cases q1 : zz_ga M 3 d = -1
        · simp [hb, hf', q1, pz_b, show d < 1024 by omega]
        · have q2 : zz_ga M 3 d = k := by
            by_cases q : zz_ga M 3 d = k
            · exact q
            · exact absurd (h3.mp ⟨q1, q⟩) hf
          rw [q2] at q1
          simp [hb, hf', q1, q2, pz_b, show d < 1024 by omega]
    · simp [hb, pz_b, show d < 1024 by omega]

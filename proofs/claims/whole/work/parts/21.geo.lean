def pz_o (x : Option Nat) : Int32 := match x with
  | some v => nI v
  | none => -1
theorem pz_o_s {v : Nat} : pz_o (some v) = nI v := rfl
theorem pz_o_n : pz_o none = -1 := rfl
def pz_q (W H l i j : Nat) : Nat := (l * H + j) * W + i
theorem pz_q_mod {W H l i j : Nat} (hi : i < W) : pz_q W H l i j % W = i := by
  unfold pz_q
  rw [Nat.add_comm, Nat.add_mul_mod_self_right, Nat.mod_eq_of_lt hi]
theorem pz_q_div {W H l i j : Nat} (hi : i < W) : pz_q W H l i j / W = l * H + j := by
  unfold pz_q
  rw [Nat.add_comm, Nat.add_mul_div_right _ _ (by omega), Nat.div_eq_of_lt hi]
  omega
theorem pz_q_row {W H l i j : Nat} (hi : i < W) (hj : j < H) : pz_q W H l i j / W % H = j := by
  rw [pz_q_div hi, Nat.add_comm, Nat.add_mul_mod_self_right, Nat.mod_eq_of_lt hj]
theorem pz_q_lay {W H l i j : Nat} (hi : i < W) (hj : j < H) : pz_q W H l i j / (W * H) = l := by
  rw [← Nat.div_div_eq_div_mul, pz_q_div hi, Nat.add_comm, Nat.add_mul_div_right _ _ (by omega), Nat.div_eq_of_lt hj]
  omega
theorem pz_q_lt {W H D l i j : Nat} (hi : i < W) (hj : j < H) (hl : l < D) : pz_q W H l i j < W * H * D := by
  unfold pz_q
  have h1 : (l * H + j + 1) * W ≤ (D * H) * W := Nat.mul_le_mul_right _ (by
    have h2 : (l + 1) * H ≤ D * H := Nat.mul_le_mul_right _ hl
    rw [Nat.succ_mul] at h2
    omega)
  rw [Nat.succ_mul] at h1
  have h3 : W * H * D = (D * H) * W := by rw [Nat.mul_comm W H, Nat.mul_comm (H * W) D, Nat.mul_assoc]
  omega
theorem pz_q_of {W H D c : Nat} (hW : 0 < W) (hH : 0 < H) (hc : c < W * H * D) : c % W < W ∧ c / W % H < H ∧ c / (W * H) < D ∧ c = pz_q W H (c / (W * H)) (c % W) (c / W % H) := by
  refine ⟨Nat.mod_lt _ hW, Nat.mod_lt _ hH, Nat.div_lt_of_lt_mul hc, ?_⟩
  unfold pz_q
  rw [← Nat.div_div_eq_div_mul]
  have h1 := Nat.div_add_mod (c / W) H
  have h2 := Nat.div_add_mod c W
  rw [Nat.mul_comm] at h1
  rw [h1, Nat.mul_comm]
  omega
theorem pz_q_inj {W H l i j l' i' j' : Nat} (hi : i < W) (hj : j < H) (hi' : i' < W) (hj' : j' < H) (h : pz_q W H l i j = pz_q W H l' i' j') : l = l' ∧ i = i' ∧ j = j' := by
  have h1 := pz_q_mod (H := H) (l := l) (j := j) hi
  have h2 := pz_q_row (l := l) hi hj
  have h3 := pz_q_lay (l := l) hi hj
  rw [h] at h1 h2 h3
  rw [pz_q_mod hi'] at h1
  rw [pz_q_row hi' hj'] at h2
  rw [pz_q_lay hi' hj'] at h3
  omega
def pz_nq (W H D l i j n : Nat) : Option Nat :=
  if n = 0 then (if 1 ≤ l then some (pz_q W H (l - 1) i j) else none)
  else if n = 1 then (if 1 ≤ j then some (pz_q W H l i (j - 1)) else none)
  else if n = 2 then (if 1 ≤ i then some (pz_q W H l (i - 1) j) else none)
  else if n = 3 then (if i + 1 < W then some (pz_q W H l (i + 1) j) else none)
  else if n = 4 then (if j + 1 < H then some (pz_q W H l i (j + 1)) else none)
  else (if l + 1 < D then some (pz_q W H (l + 1) i j) else none)
def pz_nb (W H D c n : Nat) : Option Nat := pz_nq W H D (c / (W * H)) (c % W) (c / W % H) n
theorem pz_nb_q {W H D l i j n : Nat} (hi : i < W) (hj : j < H) : pz_nb W H D (pz_q W H l i j) n = pz_nq W H D l i j n := by
  unfold pz_nb
  rw [pz_q_mod hi, pz_q_row hi hj, pz_q_lay hi hj]
theorem pz_six {n : Nat} (h : n < 6) : n = 0 ∨ n = 1 ∨ n = 2 ∨ n = 3 ∨ n = 4 ∨ n = 5 := by omega
theorem pz_nb_lt {W H D c n d : Nat} (hW : 0 < W) (hH : 0 < H) (hc : c < W * H * D) (h : pz_nb W H D c n = some d) : d < W * H * D := by
  obtain ⟨hi, hj, hl, -⟩ := pz_q_of hW hH hc
  unfold pz_nb pz_nq at h
  repeat' split at h
  all_goals (first | (cases h; done) | (cases h; exact pz_q_lt (by omega) (by omega) (by omega)))
theorem pz_nb_sym {W H D c n d : Nat} (hW : 0 < W) (hH : 0 < H) (hc : c < W * H * D) (hn : n < 6) (h : pz_nb W H D c n = some d) : pz_nb W H D d (5 - n) = some c := by
  obtain ⟨hi, hj, hl, he⟩ := pz_q_of hW hH hc
  generalize c / (W * H) = l at *
  generalize c % W = i at *
  generalize c / W % H = j at *
  subst he
  rw [pz_nb_q hi hj] at h
  unfold pz_nq at h
  rcases pz_six hn with rfl | rfl | rfl | rfl | rfl | rfl <;> simp at h
  · obtain ⟨h1, rfl⟩ := h
    rw [pz_nb_q hi hj]
    simp [pz_nq, Nat.sub_add_cancel h1, hl]
  · obtain ⟨h1, rfl⟩ := h
    rw [pz_nb_q hi (by omega)]
    simp [pz_nq, Nat.sub_add_cancel h1, hj]
  · obtain ⟨h1, rfl⟩ := h
    rw [pz_nb_q (by omega) hj]
    simp [pz_nq, Nat.sub_add_cancel h1, hi]
  · obtain ⟨h1, rfl⟩ := h
    rw [pz_nb_q (by omega) hj]
    simp [pz_nq]
  · obtain ⟨h1, rfl⟩ := h
    rw [pz_nb_q hi (by omega)]
    simp [pz_nq]
  · obtain ⟨h1, rfl⟩ := h
    rw [pz_nb_q hi hj]
    simp [pz_nq]
theorem pz_nb_lay {W H D c n d : Nat} (hW : 0 < W) (hH : 0 < H) (hc : c < W * H * D) (hn : n < 6) (h : pz_nb W H D c n = some d) :
    (n = 0 → d / (W * H) + 1 = c / (W * H)) ∧ (n = 5 → d / (W * H) = c / (W * H) + 1) ∧ (n ≠ 0 → n ≠ 5 → d / (W * H) = c / (W * H)) := by
  obtain ⟨hi, hj, hl, he⟩ := pz_q_of hW hH hc
  unfold pz_nb at h
  generalize c / (W * H) = l at *
  generalize c % W = i at *
  generalize c / W % H = j at *
  unfold pz_nq at h
  rcases pz_six hn with rfl | rfl | rfl | rfl | rfl | rfl <;> simp at h <;> obtain ⟨h1, rfl⟩ := h <;> rw [pz_q_lay (by omega) (by omega)] <;> simp <;> omega
theorem pz_nb_inj {W H D c n m d : Nat} (hW : 0 < W) (hH : 0 < H) (hc : c < W * H * D) (hn : n < 6) (hm : m < 6) (h : pz_nb W H D c n = some d) (h' : pz_nb W H D c m = some d) : n = m := by
  obtain ⟨hi, hj, hl, he⟩ := pz_q_of hW hH hc
  unfold pz_nb at h h'
  generalize c / (W * H) = l at *
  generalize c % W = i at *
  generalize c / W % H = j at *
  unfold pz_nq at h h'
  rcases pz_six hn with rfl | rfl | rfl | rfl | rfl | rfl <;> rcases pz_six hm with rfl | rfl | rfl | rfl | rfl | rfl <;> simp at h h' <;> (first | rfl | (exfalso; obtain ⟨h1, h2⟩ := h; obtain ⟨h3, h4⟩ := h'; have h5 := pz_q_inj (by omega) (by omega) (by omega) (by omega) (h2.trans h4.symm); omega))
/-- the class's own arithmetic -/
def pz_cgeo (W H D : Nat) (S : zz_St) : Prop := zz_gi S 2 = nI W ∧ zz_gi S 3 = nI H ∧ zz_gi S 4 = nI D ∧ zz_gi S 5 = nI (W * H) ∧ zz_gi S 6 = nI (W * H * D)
def pz_mgeo (W H D : Nat) (M : zz_St) : Prop := zz_gi M 1 = nI W ∧ zz_gi M 2 = nI H ∧ zz_gi M 3 = nI D
def pz_siz (W H D : Nat) : Prop := 0 < W ∧ 0 < H ∧ 0 < D ∧ W * H ≤ 256 ∧ W * H * D ≤ 1024 ∧ W ≤ 16 ∧ H ≤ 16 ∧ D ≤ 4
theorem pz_siz_of {W H D : Nat} (h1 : 1 ≤ W) (h2 : W ≤ 16) (h3 : 1 ≤ H) (h4 : H ≤ 16) (h5 : 1 ≤ D) (h6 : D ≤ 4) : pz_siz W H D := by
  have a : W * H ≤ 16 * 16 := Nat.mul_le_mul h2 h4
  have b : W * H * D ≤ 256 * 4 := Nat.mul_le_mul (by omega) h6
  exact ⟨h1, h3, h5, by omega, by omega, h2, h4, h6⟩
theorem pz_bz {W H D : Nat} (h : pz_siz W H D) : 0 < W * H := Nat.mul_pos h.1 h.2.1
theorem pz_bw {W H : Nat} (hH : 0 < H) : W ≤ W * H := Nat.le_mul_of_pos_right W hH
theorem pz_c_layerOf {W H D : Nat} (hs : pz_siz W H D) {S : zz_St} (hg : pz_cgeo W H D S) {N z c : Nat} (hc : c < 1024) : zf_X1_layerOf N z S (nI c) = some (nI (c / (W * H))) := by
  obtain ⟨g2, g3, g4, g5, g6⟩ := hg
  have h0 := pz_bz hs
  obtain ⟨_, _, _, h1, _⟩ := hs
  unfold zf_X1_layerOf
  rw [g5, pz_qn h0 (by omega)]
  simp only [zz_gd, if_true]
  rw [pk_div (by omega) h0 (by omega)]
theorem pz_c_rowOf {W H D : Nat} (hs : pz_siz W H D) {S : zz_St} (hg : pz_cgeo W H D S) {N z c : Nat} (hc : c < 1024) : zf_X1_rowOf N z S (nI c) = some (nI (c / W % H)) := by
  obtain ⟨g2, g3, g4, g5, g6⟩ := hg
  obtain ⟨w0, h0, _, _, _, hw, hh, _⟩ := hs
  have hd : c / W ≤ c := Nat.div_le_self _ _
  unfold zf_X1_rowOf
  rw [g2, g3, pz_qn w0 (by omega), pz_qn h0 (by omega)]
  simp only [zz_gd, if_true]
  rw [pk_div (by omega) w0 (by omega), pk_rem (by omega) h0 (by omega)]
theorem pz_c_columnOf {W H D : Nat} (hs : pz_siz W H D) {S : zz_St} (hg : pz_cgeo W H D S) {N z c : Nat} (hc : c < 1024) : zf_X1_columnOf N z S (nI c) = some (nI (c % W)) := by
  obtain ⟨g2, g3, g4, g5, g6⟩ := hg
  obtain ⟨w0, h0, _, _, _, hw, hh, _⟩ := hs
  unfold zf_X1_columnOf
  rw [g2, pz_qn w0 (by omega)]
  simp only [zz_gd, if_true]
  rw [pk_rem (by omega) w0 (by omega)]
theorem pz_q_modA {W H l i j : Nat} (hi : i < W) (hj : j < H) : pz_q W H l i j % (W * H) = j * W + i := by
  rw [Nat.mod_mul, pz_q_mod hi, pz_q_row hi hj, Nat.mul_comm W j]
  omega
theorem pz_c_neighbour {W H D : Nat} (hs : pz_siz W H D) {S : zz_St} (hg : pz_cgeo W H D S) {N z c n : Nat} (hc : c < W * H * D) (hn : n < 6) : zf_X1_neighbour N z S (nI c) (nI n) = some (pz_o (pz_nb W H D c n)) := by
  obtain ⟨g2, g3, g4, g5, g6⟩ := hg
  have hA := pz_bz hs
  obtain ⟨w0, h0, d0, ha, hz, hw, hh, hd⟩ := hs
  obtain ⟨hi, hj, hl, he⟩ := pz_q_of w0 h0 hc
  have hcz : c < 1024 := by omega
  generalize c / (W * H) = l at *
  generalize c % W = i at *
  generalize c / W % H = j at *
  have hm := pz_q_modA (l := l) hi hj
  have hmw := pz_q_mod (H := H) (l := l) (j := j) hi
  rw [← he] at hm hmw
  unfold zf_X1_neighbour
  simp only [zz_jn1]
  rw [g2, g5, g6, pz_qn w0 (by omega), pz_qn hA (by omega)]
  rw [pk_rem (a := c) (by omega) hA (by omega), pk_rem (a := c) (by omega) w0 (by omega), hm, hmw]
  have hjw : j * W + W ≤ W * H := by
    have : (j + 1) * W ≤ H * W := Nat.mul_le_mul_right _ hj
    rw [Nat.succ_mul, Nat.mul_comm H W] at this
    exact this
  have hlw : l * (W * H) + W * H ≤ W * H * D := by
    have : (l + 1) * (W * H) ≤ D * (W * H) := Nat.mul_le_mul_right _ hl
    rw [Nat.succ_mul, Nat.mul_comm D] at this
    exact this
  have hq : ∀ l' i' j', pz_q W H l' i' j' = l' * (W * H) + j' * W + i' := by
    intro l' i' j'
    unfold pz_q
    rw [Nat.add_mul, Nat.mul_assoc, Nat.mul_comm H W]
  have heq := he
  rw [hq] at heq
  rw [he, pz_nb_q hi hj, ← he]
  unfold pz_nq
  have e0 : ∀ m : Nat, m < 6 → (nI n = nI m) = (n = m) := fun m hm => pz_eqI (by omega) (by omega)
  have k0 : (nI n = (0 : Int32)) = (n = 0) := e0 0 (by omega)
  have k1 : (nI n = (1 : Int32)) = (n = 1) := e0 1 (by omega)
  have k2 : (nI n = (2 : Int32)) = (n = 2) := e0 2 (by omega)
  have k3 : (nI n = (3 : Int32)) = (n = 3) := e0 3 (by omega)
  have k4 : (nI n = (4 : Int32)) = (n = 4) := e0 4 (by omega)
  have k5 : (nI n = (5 : Int32)) = (n = 5) := e0 5 (by omega)
  simp only [k0, k1, k2, k3, k4, k5]
  have hz1 : W * H ≤ W * H * D := Nat.le_mul_of_pos_right _ d0
  rcases pz_six hn with rfl | rfl | rfl | rfl | rfl | rfl
  · simp only [zz_gd, if_true]
    by_cases hx : 1 ≤ l
    · have : l * (W * H) = (l - 1) * (W * H) + W * H := by
        rw [← Nat.succ_mul]; congr 1; omega
      rw [if_neg (by rw [pz_ltI (by omega) (by omega)]; omega), if_pos hx, pz_o_s, pk_sub (by omega)]
      rw [hq]; congr 2; omega
    · have hl0 : l = 0 := by omega
      subst hl0
      rw [Nat.zero_mul] at heq
      rw [if_pos (by rw [pz_ltI (by omega) (by omega)]; omega), if_neg hx, pz_o_n]
  · simp only [zz_gd, if_true, Nat.reduceEqDiff, if_false]
    by_cases hx : 1 ≤ j
    · have : j * W = (j - 1) * W + W := by
        rw [← Nat.succ_mul]; congr 1; omega
      rw [if_neg (by rw [pz_ltI (by omega) (by omega)]; omega), if_pos hx, pz_o_s, pk_sub (by omega)]
      rw [hq]; congr 2; omega
    · have hl0 : j = 0 := by omega
      subst hl0
      rw [Nat.zero_mul] at heq ⊢
      rw [if_pos (by rw [pz_ltI (by omega) (by omega)]; omega), if_neg hx, pz_o_n]
  · simp only [zz_gd, if_true, Nat.reduceEqDiff, if_false]
    by_cases hx : 1 ≤ i
    · rw [if_neg (by rw [pz_c0c (by omega)]; omega), if_pos hx, pz_o_s, pz_sub1 (by omega)]
      rw [hq]; congr 2; omega
    · rw [if_pos (by rw [pz_c0c (by omega)]; omega), if_neg hx, pz_o_n]
  · simp only [zz_gd, if_true, Nat.reduceEqDiff, if_false]
    rw [pz_sub1 (by omega)]
    by_cases hx : i + 1 < W
    · rw [if_neg (by rw [pz_leI (by omega) (by omega)]; omega), if_pos hx, pz_o_s, nI_1]
      rw [hq]; congr 2; omega
    · rw [if_pos (by rw [pz_leI (by omega) (by omega)]; omega), if_neg hx, pz_o_n]
  · simp only [zz_gd, if_true, Nat.reduceEqDiff, if_false]
    rw [pk_sub (by omega)]
    by_cases hx : j + 1 < H
    · have h2 : (j + 1 + 1) * W ≤ H * W := Nat.mul_le_mul_right _ hx
      rw [Nat.succ_mul, Nat.succ_mul, Nat.mul_comm H W] at h2
      rw [if_neg (by rw [pz_leI (by omega) (by omega)]; omega), if_pos hx, pz_o_s, nI_add]
      rw [hq, Nat.succ_mul]; congr 2; omega
    · have h2 : H * W = (j + 1) * W := by congr 1; omega
      rw [Nat.succ_mul, Nat.mul_comm H W] at h2
      rw [if_pos (by rw [pz_leI (by omega) (by omega)]; omega), if_neg hx, pz_o_n]
  · simp only [zz_gd, if_true, Nat.reduceEqDiff, if_false]
    rw [pk_sub (by omega)]
    by_cases hx : l + 1 < D
    · have h2 : (l + 1 + 1) * (W * H) ≤ D * (W * H) := Nat.mul_le_mul_right _ hx
      rw [Nat.succ_mul, Nat.succ_mul, Nat.mul_comm D] at h2
      rw [if_neg (by rw [pz_leI (by omega) (by omega)]; omega), if_pos hx, pz_o_s, nI_add]
      rw [hq, Nat.succ_mul]; congr 2; omega
    · have h2 : D * (W * H) = (l + 1) * (W * H) := by congr 1; omega
      rw [Nat.succ_mul, Nat.mul_comm D] at h2
      rw [if_pos (by rw [pz_leI (by omega) (by omega)]; omega), if_neg hx, pz_o_n]
/-- the reference's -/
def pz_cell (W H D : Nat) (p1 p2 p3 : Int32) : Option Nat := if ¬ p1 < 0 ∧ p1 < nI D ∧ ¬ p2 < 0 ∧ p2 < nI W ∧ ¬ p3 < 0 ∧ p3 < nI H then some (pz_q W H p1.toNatClampNeg p2.toNatClampNeg p3.toNatClampNeg) else none
theorem pz_nle_lt {a b : Int32} : (a ≤ b) = ¬ (b < a) := by
  rw [Int32.le_iff_toInt_le, Int32.lt_iff_toInt_lt]
  apply propext
  omega
theorem pz_ofcl {p : Int32} (h : ¬ p < 0) : p = nI p.toNatClampNeg ∧ p.toNatClampNeg < 2147483648 := by
  obtain ⟨j, h1, rfl⟩ := nI_of h
  rw [nI_clampI h1]
  exact ⟨rfl, h1⟩
theorem pz_m_cell {W H D : Nat} {M : zz_St} (hg : pz_mgeo W H D M) {N : Nat} (p1 p2 p3 : Int32) : zf_X7_cell N M p1 p2 p3 = some (pz_o (pz_cell W H D p1 p2 p3)) := by
  obtain ⟨g1, g2, g3⟩ := hg
  unfold zf_X7_cell pz_cell
  simp only [zz_jn1, zz_let, g1, g2, g3, pz_nle_lt, if_true, show ((1 : Int32) = 0) = False from by simp, if_false, Classical.not_not]
  by_cases h1 : p1 < 0
  · simp [h1, pz_o]
  by_cases h2 : p1 < nI D
  · by_cases h3 : p2 < 0
    · simp [h1, h2, h3, pz_o]
    by_cases h4 : p2 < nI W
    · by_cases h5 : p3 < 0
      · simp [h1, h2, h3, h4, h5, pz_o]
      by_cases h6 : p3 < nI H
      · simp only [h1, h2, h3, h4, h5, h6, not_true, not_false_iff, and_self, if_true, if_false, pz_o]
        obtain ⟨e1, _⟩ := pz_ofcl h1
        obtain ⟨e2, _⟩ := pz_ofcl h3
        obtain ⟨e3, _⟩ := pz_ofcl h5
        unfold pz_q
        generalize p1.toNatClampNeg = a at *
        generalize p2.toNatClampNeg = b at *
        generalize p3.toNatClampNeg = c at *
        rw [e1, e2, e3, pk_mul, nI_add, pk_mul, nI_add]
      · simp [h1, h2, h3, h4, h5, h6, pz_o]
    · simp [h1, h2, h3, h4, pz_o]
  · simp [h1, h2, pz_o]
theorem pz_cell_n {W H D l i j : Nat} (hs : pz_siz W H D) (hl : l < 1025) (hi : i < 1025) (hj : j < 1025) : pz_cell W H D (nI l) (nI i) (nI j) = if l < D ∧ i < W ∧ j < H then some (pz_q W H l i j) else none := by
  obtain ⟨w0, h0, d0, ha, hz, hw, hh, hd⟩ := hs
  unfold pz_cell
  simp (disch := omega) only [pz_n0, not_false_iff, true_and, pz_ltI, nI_clampI]
theorem pz_cell_a {W H D : Nat} {p2 p3 : Int32} : pz_cell W H D (-1) p2 p3 = none := by
  unfold pz_cell
  rw [if_neg (by simp)]
theorem pz_cell_b {W H D : Nat} {p1 p3 : Int32} : pz_cell W H D p1 (-1) p3 = none := by
  unfold pz_cell
  rw [if_neg (by simp)]
theorem pz_cell_c {W H D : Nat} {p1 p2 : Int32} : pz_cell W H D p1 p2 (-1) = none := by
  unfold pz_cell
  rw [if_neg (by simp)]
theorem pz_m_layerOf {W H D : Nat} (hs : pz_siz W H D) {M : zz_St} (hg : pz_mgeo W H D M) {N c : Nat} (hc : c < 1024) : zf_X7_layerOf N M (nI c) = some (nI (c / (W * H))) := by
  obtain ⟨g2, g3, g4⟩ := hg
  have h0 := pz_bz hs
  obtain ⟨_, _, _, h1, _⟩ := hs
  unfold zf_X7_layerOf
  rw [g2, g3, pk_mul, pz_qn h0 (by omega)]
  simp only [zz_gd, if_true]
  rw [pk_div (by omega) h0 (by omega)]
theorem pz_m_rowOf {W H D : Nat} (hs : pz_siz W H D) {M : zz_St} (hg : pz_mgeo W H D M) {N c : Nat} (hc : c < 1024) : zf_X7_rowOf N M (nI c) = some (nI (c / W % H)) := by
  obtain ⟨g2, g3, g4⟩ := hg
  obtain ⟨w0, h0, _, _, _, hw, hh, _⟩ := hs
  have hd : c / W ≤ c := Nat.div_le_self _ _
  unfold zf_X7_rowOf
  rw [g2, g3, pz_qn w0 (by omega), pz_qn h0 (by omega)]
  simp only [zz_gd, if_true]
  rw [pk_div (by omega) w0 (by omega), pk_rem (by omega) h0 (by omega)]
theorem pz_m1' {n : Nat} : nI n - 1 = if 1 ≤ n then nI (n - 1) else -1 := by
  by_cases h : 1 ≤ n
  · rw [if_pos h, pz_sub1 h]
  · have : n = 0 := by omega
    subst this
    decide
theorem pz_m_neighbour {W H D : Nat} (hs : pz_siz W H D) {M : zz_St} (hg : pz_mgeo W H D M) {N c n : Nat} (hc : c < W * H * D) (hn : n < 6) : zf_X7_neighbour N M (nI c) (nI n) = some (pz_o (pz_nb W H D c n)) := by
  have hs' := hs
  obtain ⟨w0, h0, d0, ha, hz, hw, hh, hd⟩ := hs
  obtain ⟨hi, hj, hl, he⟩ := pz_q_of w0 h0 hc
  unfold zf_X7_neighbour
  rw [pz_m_layerOf hs' hg (by omega), pz_m_rowOf hs' hg (by omega)]
  simp only [zz_b1, zz_let, pz_m_cell hg]
  rw [hg.1, pz_qn w0 (by omega), pk_rem (a := c) (by omega) w0 (by omega)]
  simp only [zz_gd, if_true]
  unfold pz_nb
  generalize c / (W * H) = l at *
  generalize c % W = i at *
  generalize c / W % H = j at *
  have e0 : ∀ m : Nat, m < 6 → (nI n = nI m) = (n = m) := fun m hm => pz_eqI (by omega) (by omega)
  have k0 : (nI n = (0 : Int32)) = (n = 0) := e0 0 (by omega)
  have k1 : (nI n = (1 : Int32)) = (n = 1) := e0 1 (by omega)
  have k2 : (nI n = (2 : Int32)) = (n = 2) := e0 2 (by omega)
  have k3 : (nI n = (3 : Int32)) = (n = 3) := e0 3 (by omega)
  have k4 : (nI n = (4 : Int32)) = (n = 4) := e0 4 (by omega)
  simp only [k0, k1, k2, k3, k4, pz_m1', nI_1]
  unfold pz_nq
  rcases pz_six hn with rfl | rfl | rfl | rfl | rfl | rfl
  · by_cases hx : 1 ≤ l
    · simp only [hx, if_true]
      rw [pz_cell_n hs' (by omega) (by omega) (by omega), if_pos ⟨by omega, hi, hj⟩]
    · simp only [hx, if_true, if_false, pz_cell_a]
  · by_cases hx : 1 ≤ j
    · simp only [hx, if_true, Nat.reduceEqDiff, if_false]
      rw [pz_cell_n hs' (by omega) (by omega) (by omega), if_pos ⟨by omega, hi, by omega⟩]
    · simp only [hx, if_true, if_false, Nat.reduceEqDiff, pz_cell_c]
  · by_cases hx : 1 ≤ i
    · simp only [hx, if_true, Nat.reduceEqDiff, if_false]
      rw [pz_cell_n hs' (by omega) (by omega) (by omega), if_pos ⟨by omega, by omega, by omega⟩]
    · simp only [hx, if_true, if_false, Nat.reduceEqDiff, pz_cell_b]
  · simp only [if_true, Nat.reduceEqDiff, if_false]
    rw [pz_cell_n hs' (by omega) (by omega) (by omega)]
    by_cases hx : i + 1 < W
    · rw [if_pos ⟨hl, hx, hj⟩, if_pos hx]
    · rw [if_neg (by omega), if_neg hx]
  · simp only [if_true, Nat.reduceEqDiff, if_false]
    rw [pz_cell_n hs' (by omega) (by omega) (by omega)]
    by_cases hx : j + 1 < H
    · rw [if_pos ⟨hl, hi, hx⟩, if_pos hx]
    · rw [if_neg (by omega), if_neg hx]
  · simp only [if_true, Nat.reduceEqDiff, if_false]
    rw [pz_cell_n hs' (by omega) (by omega) (by omega)]
    by_cases hx : l + 1 < D
    · rw [if_pos ⟨hx, hi, hj⟩, if_pos hx]
    · rw [if_neg (by omega), if_neg hx]

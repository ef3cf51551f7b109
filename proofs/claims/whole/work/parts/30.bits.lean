def bt (x : Int32) (i : Nat) : Bool := x.toBitVec.getLsbD i
theorem b_ext {x y : Int32} (h : ∀ i, i < 32 → bt x i = bt y i) : x = y := Int32.toBitVec_inj.mp (BitVec.eq_of_getLsbD_eq (fun i hi => h i hi))
theorem b_or (x y : Int32) (i : Nat) : bt (x ||| y) i = (bt x i || bt y i) := by unfold bt; rw [Int32.toBitVec_or, BitVec.getLsbD_or]
theorem b_and (x y : Int32) (i : Nat) : bt (x &&& y) i = (bt x i && bt y i) := by unfold bt; rw [Int32.toBitVec_and, BitVec.getLsbD_and]
theorem b_xor (x y : Int32) (i : Nat) : bt (x ^^^ y) i = (bt x i ^^ bt y i) := by unfold bt; rw [Int32.toBitVec_xor, BitVec.getLsbD_xor]
theorem b_big {x : Int32} {i : Nat} (h : 32 ≤ i) : bt x i = false := BitVec.getLsbD_of_ge _ _ h
theorem b_255 (i : Nat) : bt 255 i = decide (i < 8) := by
  rcases Nat.lt_or_ge i 32 with h | h
  · exact (by decide +kernel : ∀ i, i < 32 → bt 255 i = decide (i < 8)) i h
  · rw [b_big h, decide_eq_false (by omega)]
theorem b_65535 (i : Nat) : bt 65535 i = decide (i < 16) := by
  rcases Nat.lt_or_ge i 32 with h | h
  · exact (by decide +kernel : ∀ i, i < 32 → bt 65535 i = decide (i < 16)) i h
  · rw [b_big h, decide_eq_false (by omega)]
theorem b_m1 : ∀ i, i < 32 → bt (-1) i = true := by decide +kernel
theorem b_0 (i : Nat) : bt 0 i = false := BitVec.getLsbD_zero
theorem s_l : ∀ n, n < 32 → ((nI n &&& 31).toBitVec.smod 32).toNat = n := by decide +kernel
theorem s_u : ∀ n, n < 32 → (((nI n).toUInt32 &&& Int32.toUInt32 31).toBitVec % 32).toNat = n := by decide +kernel
theorem b_shl (n : Nat) (hn : n < 32) (x : Int32) {i : Nat} (hi : i < 32) : bt (x <<< (nI n &&& 31)) i = (decide (n ≤ i) && bt x (i - n)) := by
  unfold bt
  rw [Int32.toBitVec_shiftLeft]
  show (x.toBitVec <<< ((nI n &&& 31).toBitVec.smod 32).toNat).getLsbD i = _
  rw [s_l n hn, BitVec.getLsbD_shiftLeft]
  rcases Nat.lt_or_ge i n with h | h
  · simp [h, Nat.not_le.mpr h]
  · simp [hi, h, Nat.not_lt.mpr h]
theorem b_ushr (n : Nat) (hn : n < 32) (x : Int32) (i : Nat) : bt ((x.toUInt32 >>> ((nI n).toUInt32 &&& Int32.toUInt32 31)).toInt32) i = bt x (n + i) := by
  show (x.toUInt32 >>> ((nI n).toUInt32 &&& Int32.toUInt32 31)).toBitVec.getLsbD i = x.toUInt32.toBitVec.getLsbD (n + i)
  rw [UInt32.toBitVec_shiftRight]
  show (x.toUInt32.toBitVec >>> (((nI n).toUInt32 &&& Int32.toUInt32 31).toBitVec % 32).toNat).getLsbD i = _
  rw [s_u n hn, BitVec.getLsbD_ushiftRight]
theorem b_sshr (n : Nat) (hn : n < 32) (x : Int32) {i : Nat} (hi : i < 32) : bt (x >>> (nI n &&& 31)) i = if n + i < 32 then bt x (n + i) else bt x 31 := by
  unfold bt
  rw [Int32.toBitVec_shiftRight]
  show (x.toBitVec.sshiftRight ((nI n &&& 31).toBitVec.smod 32).toNat).getLsbD i = _
  rw [s_l n hn, BitVec.getLsbD_sshiftRight, BitVec.msb_eq_getLsbD_last]
  simp [hi]

theorem pz_b1bit (i : Nat) : bt 1 i = decide (i = 0) := by
  rcases Nat.lt_or_ge i 32 with h | h
  · exact (by decide +kernel : ∀ i, i < 32 → bt 1 i = decide (i = 0)) i h
  · rw [b_big h, decide_eq_false (by omega)]
theorem pz_bt_or {x : Int32} {n i : Nat} (hn : n < 32) (hi : i < 32) : bt (x ||| ((1 : Int32) <<< (nI n &&& 31))) i = (bt x i || decide (i = n)) := by
  rw [b_or, b_shl n hn _ hi, pz_b1bit]
  congr 1
  by_cases h : i = n
  · subst h; simp
  · by_cases h2 : n ≤ i
    · simp [h, h2]; omega
    · simp [h, h2]
theorem pz_bt_and1 (y : Int32) : (y &&& 1 = 0) = (bt y 0 = false) := by
  apply propext
  constructor
  · intro h
    have h1 := congrArg (fun q => bt q 0) h
    simp only [b_and, b_0, pz_b1bit] at h1
    simpa using h1
  · intro h
    apply b_ext
    intro i hi
    rw [b_and, b_0, pz_b1bit]
    by_cases e : i = 0
    · subst e; simp [h]
    · simp [e]
theorem pz_bt_u {x : Int32} {n : Nat} (hn : n < 32) : (((x.toUInt32 >>> ((nI n).toUInt32 &&& Int32.toUInt32 31)).toInt32) &&& ((1 : Int32)) = 0) = (bt x n = false) := by
  rw [pz_bt_and1, b_ushr n hn]
  rfl
theorem pz_bt_s {x : Int32} {n : Nat} (hn : n < 32) : ((x >>> (nI n &&& 31)) &&& ((1 : Int32)) = 0) = (bt x n = false) := by
  rw [pz_bt_and1, b_sshr n hn _ (by omega)]
  simp [hn]
/-- the first pin of the least distance -/
def pz_bst (d : Nat → Option Nat) (pn : Nat → Nat) : Nat → Option Nat
  | 0 => none
  | p + 1 => match d (pn p) with
    | none => pz_bst d pn p
    | some v => if v = 0 then pz_bst d pn p else match pz_bst d pn p with
      | none => some (pn p)
      | some b => if v < pz_K d b then some (pn p) else some b
theorem pz_bst_inv (d : Nat → Option Nat) (pn : Nat → Nat) (p : Nat) :
    (pz_bst d pn p = none ∧ ∀ q u, q < p → d (pn q) = some u → u = 0) ∨ ∃ p0 v, p0 < p ∧ pz_bst d pn p = some (pn p0) ∧ d (pn p0) = some v ∧ 0 < v ∧ (∀ q u, q < p → d (pn q) = some u → 0 < u → v ≤ u) ∧ ∀ q u, q < p0 → d (pn q) = some u → 0 < u → v < u := by
  induction p with
  | zero => exact Or.inl ⟨rfl, fun q u h => by omega⟩
  | succ p ih =>
    simp only [pz_bst]
    cases hd : d (pn p) with
    | none =>
      rcases ih with ⟨h1, h2⟩ | ⟨p0, v, h1, h2, h3, h4, h5, h6⟩
      · refine Or.inl ⟨h1, fun q u hq hu => ?_⟩
        by_cases e : q = p
        · subst e; rw [hd] at hu; cases hu
        · exact h2 q u (by omega) hu
      · refine Or.inr ⟨p0, v, by omega, h2, h3, h4, fun q u hq hu h0 => ?_, h6⟩
        by_cases e : q = p
        · subst e; rw [hd] at hu; cases hu
        · exact h5 q u (by omega) hu h0
    | some w =>
      simp only
      by_cases hw : w = 0
      · rw [if_pos hw]
        subst hw
        rcases ih with ⟨h1, h2⟩ | ⟨p0, v, h1, h2, h3, h4, h5, h6⟩
        · refine Or.inl ⟨h1, fun q u hq hu => ?_⟩
          by_cases e : q = p
          · subst e; rw [hd] at hu; cases hu; rfl
          · exact h2 q u (by omega) hu
        · refine Or.inr ⟨p0, v, by omega, h2, h3, h4, fun q u hq hu h0 => ?_, h6⟩
          by_cases e : q = p
          · subst e; rw [hd] at hu; cases hu; omega
          · exact h5 q u (by omega) hu h0
      · rw [if_neg hw]
        rcases ih with ⟨h1, h2⟩ | ⟨p0, v, h1, h2, h3, h4, h5, h6⟩
        · rw [h1]
          refine Or.inr ⟨p, w, by omega, rfl, hd, by omega, fun q u hq hu h0 => ?_, fun q u hq hu h0 => ?_⟩
          · by_cases e : q = p
            · subst e; rw [hd] at hu; cases hu; exact Nat.le_refl _
            · have := h2 q u (by omega) hu; omega
          · have := h2 q u hq hu; omega
        · rw [h2]
          have hK : pz_K d (pn p0) = v := by unfold pz_K; rw [h3]; rfl
          simp only [hK]
          by_cases hlt : w < v
          · rw [if_pos hlt]
            refine Or.inr ⟨p, w, by omega, rfl, hd, by omega, fun q u hq hu h0 => ?_, fun q u hq hu h0 => ?_⟩
            · by_cases e : q = p
              · subst e; rw [hd] at hu; cases hu; exact Nat.le_refl _
              · have := h5 q u (by omega) hu h0; omega
            · have := h5 q u hq hu h0; omega
          · rw [if_neg hlt]
            refine Or.inr ⟨p0, v, by omega, rfl, h3, h4, fun q u hq hu h0 => ?_, h6⟩
            by_cases e : q = p
            · subst e; rw [hd] at hu; cases hu; omega
            · exact h5 q u (by omega) hu h0
theorem pz_bst_lt {d : Nat → Option Nat} {pn : Nat → Nat} {p b z : Nat} (hp : ∀ q, q < p → pn q < z) (h : pz_bst d pn p = some b) : b < z ∧ ∃ v, d b = some v ∧ 0 < v := by
  rcases pz_bst_inv d pn p with ⟨h1, -⟩ | ⟨p0, v, h1, h2, h3, h4, -⟩
  · rw [h1] at h; cases h
  · rw [h2] at h
    cases h
    exact ⟨hp p0 h1, v, h3, h4⟩
theorem pz_c_nearest {S : zz_St} {N z q pc : Nat} {pn : Nat → Nat} {d : Nat → Option Nat} (hz : z ≤ 1024) (hN : 10 ≤ N) (hpc : pc ≤ 5) (h21 : zz_ga S 21 q = nI pc) (hp : ∀ p, p < pc → zz_gp S q p = nI (pn p) ∧ pn p < z) (hrow : pz_row z (zz_gA S 17) d) (hrb : pz_rb z d) :
    zf_X4_nearestPin N z S q = some (pz_o (pz_bst d pn pc)) := by
  have hbd : ∀ j v, d j = some v → v ≤ 2048000000000 := fun j v h => pz_rb_le hz hrb h
  apply pz_eq_of
  unfold zf_X4_nearestPin
  rw [pz_T_let, pz_T_let]
  refine pz_for2r (e := pc) (fun p acc => acc = pz_o (pz_bst d pn p)) ?_ N 0 _ (by omega) rfl (by omega)
  rintro rc p _ hple rfl hrc
  simp only [pz_T_ite, pz_T_gd, pz_T_jn1, pz_T_jn2, pz_T_some, pz_T_let, pz_T_b1, pz_T_b2]
  simp (disch := omega) only [h21, pz_leI]
  refine ⟨fun hge => ?_, fun hlt => ?_⟩
  · have : p = pc := by omega
    subst this; rfl
  · obtain ⟨hp1, hp2⟩ := hp p (by omega)
    have hcont : ∀ x, x = pz_o (pz_bst d pn (p + 1)) → pz_T (rc x (nI (p + 1))) (fun v => v = pz_o (pz_bst d pn pc)) := fun x hx => hrc (by omega) x hx
    simp (disch := omega) only [pz_in, nI_clampI, hp1, nI_1, pz_l_le, pz_l_ge, hrow (pn p) hp2]
    refine ⟨by omega, hp2, ?_⟩
    simp only [pz_bst] at hcont
    cases hd : d (pn p) with
    | none =>
      rw [hd] at hcont
      refine ⟨fun _ => hcont _ rfl, fun h => absurd ?_ h⟩
      simp [pz_lo]
    | some w =>
      rw [hd] at hcont
      have hw := hbd _ _ hd
      simp only at hcont
      rw [pz_lo_s, pz_lN_le0 (by omega)]
      refine ⟨fun h0 => hcont _ (by rw [if_pos h0]), fun h0 => ?_⟩
      rw [if_neg h0] at hcont
      cases hb : pz_bst d pn p with
      | none =>
        rw [hb] at hcont
        exact ⟨fun _ => hcont _ rfl, fun h => absurd rfl h⟩
      | some b =>
        rw [hb] at hcont
        obtain ⟨hbz, v, hv, hv0⟩ := pz_bst_lt (fun q hq => (hp q (by omega)).2) hb
        have hvb := hbd _ _ hv
        have hK : pz_K d b = v := by unfold pz_K; rw [hv]; rfl
        simp only [hK] at hcont
        simp (disch := omega) only [pz_o_s, pz_nm1, pz_in, nI_clampI, hrow b hbz, hv, pz_lo_s, pz_lN_le]
        refine ⟨fun h => h.elim, fun _ => ⟨hp2, hbz, fun hle => hcont _ ?_, fun hnle => hcont _ ?_⟩⟩
        · rw [if_neg (by omega)]; rfl
        · rw [if_pos (by omega)]; rfl
theorem pz_m_next {M : zz_St} {N z k pc : Nat} {pn : Nat → Nat} {d : Nat → Option Nat} (hz : z ≤ 1024) (hN : 10 ≤ N) (hk : k < 12) (hpc : pc ≤ 5) (h1 : zz_ga M 1 k = nI pc) (hp : ∀ p, p < pc → zz_ga M 2 (5 * k + p) = nI (pn p) ∧ pn p < z) (hrow : pz_row z (zz_gA M 16) d) (hrb : pz_rb z d)
    (hT : ∀ c, c < z → (zz_ga M 17 c = 0 ↔ d c ≠ some 0)) :
    zf_X7_nextPin N M (nI k) = some (pz_o (pz_bst d pn pc)) := by
  have hbd : ∀ j v, d j = some v → v ≤ 2048000000000 := fun j v h => pz_rb_le hz hrb h
  apply pz_eq_of
  unfold zf_X7_nextPin
  rw [pz_T_let, pz_T_let, pz_5m]
  refine pz_fixm2 (fun m acc v => ∃ p, pc - p = m ∧ p ≤ pc ∧ v = nI (5 * k + p) ∧ acc = pz_o (pz_bst d pn p)) ?_ N pc _ _ ⟨0, rfl, by omega, rfl, rfl⟩ (by omega)
  rintro rc m _ _ ⟨p, rfl, hple, rfl, rfl⟩ hrc
  simp only [pz_T_ite, pz_T_gd, pz_T_jn1, pz_T_jn2, pz_T_some, pz_T_let, pz_T_b1, pz_T_b2]
  simp (disch := omega) only [pz_in, nI_clampI, h1, nI_add, pz_leI]
  refine ⟨hk, fun hge => ?_, fun hlt => ?_⟩
  · have : p = pc := by omega
    subst this; rfl
  · obtain ⟨hp1, hp2⟩ := hp p (by omega)
    have hcont : ∀ x, x = pz_o (pz_bst d pn (p + 1)) → pz_T (rc x (nI (5 * k + p + 1))) (fun v => v = pz_o (pz_bst d pn pc)) := fun x hx => hrc (pc - (p + 1)) _ _ (by omega) ⟨p + 1, rfl, by omega, rfl, hx⟩
    simp (disch := omega) only [pz_in, nI_clampI, hp1, nI_1, pz_l_le, pz_l_ge, hrow (pn p) hp2]
    refine ⟨by omega, by omega, ?_⟩
    have hTp := hT (pn p) hp2
    simp only [pz_bst] at hcont
    cases hd : d (pn p) with
    | none =>
      rw [hd] at hcont
      refine ⟨fun _ => ⟨by omega, fun h => absurd h ?_, fun _ => hcont _ rfl⟩, fun _ => hcont _ rfl⟩
      simp [pz_lo]
    | some w =>
      rw [hd] at hcont
      have hw := hbd _ _ hd
      simp only at hcont
      rw [hd] at hTp
      refine ⟨fun hT0 => ?_, fun hT0 => ?_⟩
      · have hw0 : w ≠ 0 := fun h => hTp.mp hT0 (by rw [h])
        rw [if_neg hw0] at hcont
        rw [pz_lo_s, pz_lN_ge0 (by omega)]
        refine ⟨by omega, fun _ => ?_, fun h => absurd trivial h⟩
        cases hb : pz_bst d pn p with
        | none =>
          rw [hb] at hcont
          exact ⟨fun _ => hcont _ rfl, fun h => absurd rfl h⟩
        | some b =>
          rw [hb] at hcont
          obtain ⟨hbz, v, hv, hv0⟩ := pz_bst_lt (fun q hq => (hp q (by omega)).2) hb
          have hvb := hbd _ _ hv
          have hK : pz_K d b = v := by unfold pz_K; rw [hv]; rfl
          simp only [hK] at hcont
          simp (disch := omega) only [pz_o_s, pz_nm1, pz_in, nI_clampI, hrow b hbz, hv, pz_lo_s, pz_lN_le]
          refine ⟨fun h => h.elim, fun _ => ⟨by omega, by omega, fun hle => hcont _ ?_, fun hnle => hcont _ ?_⟩⟩
          · rw [if_neg (by omega)]; rfl
          · rw [if_pos (by omega)]; rfl
      · have hw0 : w = 0 := by
          by_cases h : w = 0
          · exact h
          · exact absurd (hTp.mpr (by intro h2; cases h2; exact h rfl)) hT0
        exact hcont _ (by rw [if_pos hw0])

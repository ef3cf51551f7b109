def zf_X7_thrown (N : Nat) (S : zz_St)  : Option Int32 := some (zz_gi S 0)
theorem zi_X7_thrown_X7 : ∀ w ∈ wsX70, w ∈ wsX7_thrown := by decide +kernel
theorem zm_X7_thrown_80 : Cond.fieldLink RX7 80 "GridRipUpModel" "thrown" "I" ∈ wsX7_thrown := by decide +kernel
theorem zd_X7_thrown : yX7_thrown.cls = RX7 ∧ yX7_thrown.cls ≠ "java/lang/invoke/MethodHandle" ∧ yX7_thrown.cls ≠ "java/lang/invoke/VarHandle" ∧ (parseMethodDescriptor yX7_thrown.desc).map (fun d => d.parameters.length) = some 0 := by decide +kernel
set_option maxHeartbeats 4000000 in
set_option maxRecDepth 100000 in
theorem zc_X7_thrown (N : Nat) (l : Launch) (D : va_G) (k : Nat → ClassId) {a : Nat → Nat} (S : zz_St)   (v : Int32) (h : zf_X7_thrown N S  = some v) : zz_MI l yX7_thrown wsX7_thrown ({ frames := 0, cells := 0, slots := 0, locals := 0 } : Room) D k (zz_wM a k) [.ref (a 0)] S (v, S) := by
  refine zz_metI (cc := cX7_thrown) (nL := 1) (ty := .int) (by decide) rfl (Nat.le_of_ble_eq_true rfl) ?_
  intro X C hret
  have C : zz_ok X cX7_thrown RX7 wsX7_thrown k 1 ({ frames := 0, cells := 0, slots := 0, locals := 0 } : Room) := C
  unfold zf_X7_thrown at h
  show zz_ww X (0, 0) (zz_wM a k S) 0 [(0, .ref (a 0))] []
  refine zr_aln C 0 dX7_thrown_0 rfl rfl rfl ?_
  refine zg_X7_0 C zi_X7_thrown_X7 zm_X7_thrown_80 dX7_thrown_1 rfl ?_
  exact hret (zz_gi S 0) S 4 _ (0, 0) (by decide) (by decide) dX7_thrown_4 rfl (zz_ro h)

def zf_X7_cell (N : Nat) (S : zz_St) (p1 : Int32) (p2 : Int32) (p3 : Int32) : Option Int32 := zz_jn1 (fun (v1 : Int32) => zz_let v1 (fun x4 => zz_jn1 (fun (v5 : Int32) => some (v5)) (fun j6 => if x4 = 0 then (j6 ((-1 : Int32))) else (j6 ((((p1 * (zz_gi S 2)) + p3) * (zz_gi S 1)) + p2))))) (fun j2 => zz_jn1 (fun (u8 : Unit) => j2 ((0 : Int32))) (fun j9 => if p1 < 0 then (j9 ()) else (if (zz_gi S 3) ≤ p1 then (j9 ()) else (if p2 < 0 then (j9 ()) else (if (zz_gi S 1) ≤ p2 then (j9 ()) else (if p3 < 0 then (j9 ()) else (if (zz_gi S 2) ≤ p3 then (j9 ()) else (j2 ((1 : Int32))))))))))
theorem zi_X7_cell_X7 : ∀ w ∈ wsX70, w ∈ wsX7_cell := by decide +kernel
theorem zm_X7_cell_70 : Cond.fieldLink RX7 70 "GridRipUpModel" "high" "I" ∈ wsX7_cell := by decide +kernel
theorem zm_X7_cell_66 : Cond.fieldLink RX7 66 "GridRipUpModel" "wide" "I" ∈ wsX7_cell := by decide +kernel
theorem zm_X7_cell_73 : Cond.fieldLink RX7 73 "GridRipUpModel" "deep" "I" ∈ wsX7_cell := by decide +kernel
theorem zd_X7_cell : yX7_cell.cls = RX7 ∧ yX7_cell.cls ≠ "java/lang/invoke/MethodHandle" ∧ yX7_cell.cls ≠ "java/lang/invoke/VarHandle" ∧ (parseMethodDescriptor yX7_cell.desc).map (fun d => d.parameters.length) = some 3 := by decide +kernel
set_option maxHeartbeats 4000000 in
set_option maxRecDepth 100000 in
theorem zc_X7_cell (N : Nat) (l : Launch) (D : va_G) (k : Nat → ClassId) {a : Nat → Nat} (S : zz_St) (p1 : Int32) (p2 : Int32) (p3 : Int32)  (v : Int32) (h : zf_X7_cell N S p1 p2 p3 = some v) : zz_MI l yX7_cell wsX7_cell ({ frames := 0, cells := 0, slots := 0, locals := 0 } : Room) D k (zz_wM a k) [.ref (a 0), .int p1, .int p2, .int p3] S (v, S) := by
  refine zz_metI (cc := cX7_cell) (nL := 5) (ty := .int) (by decide) rfl (Nat.le_of_ble_eq_true rfl) ?_
  intro X C hret
  have C : zz_ok X cX7_cell RX7 wsX7_cell k 5 ({ frames := 0, cells := 0, slots := 0, locals := 0 } : Room) := C
  unfold zf_X7_cell at h
  show zz_ww X (0, 0) (zz_wM a k S) 0 [(0, .ref (a 0)), (1, .int p1), (2, .int p2), (3, .int p3)] []
  refine zr_iln C 1 dX7_cell_0 rfl rfl rfl ?_
  refine zz_jn1_W h (fun (v1 : Int32) => zz_ww X (0, 0) (zz_wM a k S) 41 [(0, .ref (a 0)), (1, .int p1), (2, .int p2), (3, .int p3)] [.int v1]) ?_ ?_
  · intro v1 h
    refine zr_is C [1, 2, 3, 4, 0] dX7_cell_41 rfl (by decide) (fun x4 => [(0, .ref (a 0)), (1, .int p1), (2, .int p2), (3, .int p3), (4, .int x4)]) h (fun _ => rfl) (fun x4 h => ?_)
    refine zr_il C 4 dX7_cell_43 rfl rfl ?_
    refine zz_jn1_W h (fun (v5 : Int32) => zz_ww X (0, 0) (zz_wM a k S) 67 [] [.int v5]) ?_ ?_
    · intro v5 h
      exact hret v5 S 67 _ (0, 0) (by decide) (by decide) dX7_cell_67 rfl (zz_ro h)
    intro j6 hj7 h
    refine zr_if_eq (tgt := 66) C dX7_cell_45 (by decide) rfl h (fun h => ?_) (fun h => ?_)
    · refine zr_ic (v := (-1 : Int32)) C dX7_cell_66 (by decide) rfl ?_
      refine zr_sub [] rfl ?_
      exact hj7 ((-1 : Int32)) h
    · refine zr_iln C 1 dX7_cell_48 rfl rfl rfl ?_
      refine zr_aln C 0 dX7_cell_49 rfl rfl rfl ?_
      refine zg_X7_2 C zi_X7_cell_X7 zm_X7_cell_70 dX7_cell_50 rfl ?_
      refine zr_imul C dX7_cell_53 rfl ?_
      refine zr_iln C 3 dX7_cell_54 rfl rfl rfl ?_
      refine zr_iadd C dX7_cell_55 rfl ?_
      refine zr_aln C 0 dX7_cell_56 rfl rfl rfl ?_
      refine zg_X7_1 C zi_X7_cell_X7 zm_X7_cell_66 dX7_cell_57 rfl ?_
      refine zr_imul C dX7_cell_60 rfl ?_
      refine zr_iln C 2 dX7_cell_61 rfl rfl rfl ?_
      refine zr_iadd C dX7_cell_62 rfl ?_
      refine zr_goto (tgt := 67) C dX7_cell_63 (by decide) ?_
      refine zr_sub [] rfl ?_
      exact hj7 ((((p1 * (zz_gi S 2)) + p3) * (zz_gi S 1)) + p2) h
  intro j2 hj3 h
  refine zz_jn1_W h (fun (u8 : Unit) => zz_ww X (0, 0) (zz_wM a k S) 40 [(0, .ref (a 0)), (1, .int p1), (2, .int p2), (3, .int p3)] []) ?_ ?_
  · intro u8 h
    refine zr_ic (v := (0 : Int32)) C dX7_cell_40 (by decide) rfl ?_
    exact hj3 ((0 : Int32)) h
  intro j9 hj10 h
  refine zr_if_lt (tgt := 40) C dX7_cell_1 (by decide) rfl h (fun h => ?_) (fun h => ?_)
  · exact hj10 () h
  · refine zr_iln C 1 dX7_cell_4 rfl rfl rfl ?_
    refine zr_aln C 0 dX7_cell_5 rfl rfl rfl ?_
    refine zg_X7_3 C zi_X7_cell_X7 zm_X7_cell_73 dX7_cell_6 rfl ?_
    refine zr_icmp_ge (tgt := 40) C dX7_cell_9 (by decide) rfl h (fun h => ?_) (fun h => ?_)
    · exact hj10 () h
    · refine zr_iln C 2 dX7_cell_12 rfl rfl rfl ?_
      refine zr_if_lt (tgt := 40) C dX7_cell_13 (by decide) rfl h (fun h => ?_) (fun h => ?_)
      · exact hj10 () h
      · refine zr_iln C 2 dX7_cell_16 rfl rfl rfl ?_
        refine zr_aln C 0 dX7_cell_17 rfl rfl rfl ?_
        refine zg_X7_1 C zi_X7_cell_X7 zm_X7_cell_66 dX7_cell_18 rfl ?_
        refine zr_icmp_ge (tgt := 40) C dX7_cell_21 (by decide) rfl h (fun h => ?_) (fun h => ?_)
        · exact hj10 () h
        · refine zr_iln C 3 dX7_cell_24 rfl rfl rfl ?_
          refine zr_if_lt (tgt := 40) C dX7_cell_25 (by decide) rfl h (fun h => ?_) (fun h => ?_)
          · exact hj10 () h
          · refine zr_iln C 3 dX7_cell_28 rfl rfl rfl ?_
            refine zr_aln C 0 dX7_cell_29 rfl rfl rfl ?_
            refine zg_X7_2 C zi_X7_cell_X7 zm_X7_cell_70 dX7_cell_30 rfl ?_
            refine zr_icmp_ge (tgt := 40) C dX7_cell_33 (by decide) rfl h (fun h => ?_) (fun h => ?_)
            · exact hj10 () h
            · refine zr_ic (v := (1 : Int32)) C dX7_cell_36 (by decide) rfl ?_
              refine zr_goto (tgt := 41) C dX7_cell_37 (by decide) ?_
              exact hj3 ((1 : Int32)) h

def zf_X7_layerOf (N : Nat) (S : zz_St) (p1 : Int32) : Option Int32 := zz_gd (!(((zz_gi S 1) * (zz_gi S 2)) == 0)) (some (p1 / ((zz_gi S 1) * (zz_gi S 2))))
theorem zi_X7_layerOf_X7 : ∀ w ∈ wsX70, w ∈ wsX7_layerOf := by decide +kernel
theorem zm_X7_layerOf_66 : Cond.fieldLink RX7 66 "GridRipUpModel" "wide" "I" ∈ wsX7_layerOf := by decide +kernel
theorem zm_X7_layerOf_70 : Cond.fieldLink RX7 70 "GridRipUpModel" "high" "I" ∈ wsX7_layerOf := by decide +kernel
theorem zd_X7_layerOf : yX7_layerOf.cls = RX7 ∧ yX7_layerOf.cls ≠ "java/lang/invoke/MethodHandle" ∧ yX7_layerOf.cls ≠ "java/lang/invoke/VarHandle" ∧ (parseMethodDescriptor yX7_layerOf.desc).map (fun d => d.parameters.length) = some 1 := by decide +kernel
set_option maxHeartbeats 4000000 in
set_option maxRecDepth 100000 in
theorem zc_X7_layerOf (N : Nat) (l : Launch) (D : va_G) (k : Nat → ClassId) {a : Nat → Nat} (S : zz_St) (p1 : Int32)  (v : Int32) (h : zf_X7_layerOf N S p1 = some v) : zz_MI l yX7_layerOf wsX7_layerOf ({ frames := 0, cells := 0, slots := 0, locals := 0 } : Room) D k (zz_wM a k) [.ref (a 0), .int p1] S (v, S) := by
  refine zz_metI (cc := cX7_layerOf) (nL := 2) (ty := .int) (by decide) rfl (Nat.le_of_ble_eq_true rfl) ?_
  intro X C hret
  have C : zz_ok X cX7_layerOf RX7 wsX7_layerOf k 2 ({ frames := 0, cells := 0, slots := 0, locals := 0 } : Room) := C
  unfold zf_X7_layerOf at h
  show zz_ww X (0, 0) (zz_wM a k S) 0 [(0, .ref (a 0)), (1, .int p1)] []
  refine zr_iln C 1 dX7_layerOf_0 rfl rfl rfl ?_
  refine zr_aln C 0 dX7_layerOf_1 rfl rfl rfl ?_
  refine zg_X7_1 C zi_X7_layerOf_X7 zm_X7_layerOf_66 dX7_layerOf_2 rfl ?_
  refine zr_aln C 0 dX7_layerOf_5 rfl rfl rfl ?_
  refine zg_X7_2 C zi_X7_layerOf_X7 zm_X7_layerOf_70 dX7_layerOf_6 rfl ?_
  refine zr_imul C dX7_layerOf_9 rfl ?_
  refine zr_idiv C dX7_layerOf_10 rfl h (fun h => ?_)
  exact hret (p1 / ((zz_gi S 1) * (zz_gi S 2))) S 11 _ (0, 0) (by decide) (by decide) dX7_layerOf_11 rfl (zz_ro h)

def zf_X7_rowOf (N : Nat) (S : zz_St) (p1 : Int32) : Option Int32 := zz_gd (!((zz_gi S 1) == 0)) (zz_gd (!((zz_gi S 2) == 0)) (some ((p1 / (zz_gi S 1)) - (p1 / (zz_gi S 1)) / (zz_gi S 2) * (zz_gi S 2))))
theorem zi_X7_rowOf_X7 : ∀ w ∈ wsX70, w ∈ wsX7_rowOf := by decide +kernel
theorem zm_X7_rowOf_66 : Cond.fieldLink RX7 66 "GridRipUpModel" "wide" "I" ∈ wsX7_rowOf := by decide +kernel
theorem zm_X7_rowOf_70 : Cond.fieldLink RX7 70 "GridRipUpModel" "high" "I" ∈ wsX7_rowOf := by decide +kernel
theorem zd_X7_rowOf : yX7_rowOf.cls = RX7 ∧ yX7_rowOf.cls ≠ "java/lang/invoke/MethodHandle" ∧ yX7_rowOf.cls ≠ "java/lang/invoke/VarHandle" ∧ (parseMethodDescriptor yX7_rowOf.desc).map (fun d => d.parameters.length) = some 1 := by decide +kernel
set_option maxHeartbeats 4000000 in
set_option maxRecDepth 100000 in
theorem zc_X7_rowOf (N : Nat) (l : Launch) (D : va_G) (k : Nat → ClassId) {a : Nat → Nat} (S : zz_St) (p1 : Int32)  (v : Int32) (h : zf_X7_rowOf N S p1 = some v) : zz_MI l yX7_rowOf wsX7_rowOf ({ frames := 0, cells := 0, slots := 0, locals := 0 } : Room) D k (zz_wM a k) [.ref (a 0), .int p1] S (v, S) := by
  refine zz_metI (cc := cX7_rowOf) (nL := 2) (ty := .int) (by decide) rfl (Nat.le_of_ble_eq_true rfl) ?_
  intro X C hret
  have C : zz_ok X cX7_rowOf RX7 wsX7_rowOf k 2 ({ frames := 0, cells := 0, slots := 0, locals := 0 } : Room) := C
  unfold zf_X7_rowOf at h
  show zz_ww X (0, 0) (zz_wM a k S) 0 [(0, .ref (a 0)), (1, .int p1)] []
  refine zr_iln C 1 dX7_rowOf_0 rfl rfl rfl ?_
  refine zr_aln C 0 dX7_rowOf_1 rfl rfl rfl ?_
  refine zg_X7_1 C zi_X7_rowOf_X7 zm_X7_rowOf_66 dX7_rowOf_2 rfl ?_
  refine zr_idiv C dX7_rowOf_5 rfl h (fun h => ?_)
  refine zr_aln C 0 dX7_rowOf_6 rfl rfl rfl ?_
  refine zg_X7_2 C zi_X7_rowOf_X7 zm_X7_rowOf_70 dX7_rowOf_7 rfl ?_
  refine zr_irem C dX7_rowOf_10 rfl h (fun h => ?_)
  exact hret ((p1 / (zz_gi S 1)) - (p1 / (zz_gi S 1)) / (zz_gi S 2) * (zz_gi S 2)) S 11 _ (0, 0) (by decide) (by decide) dX7_rowOf_11 rfl (zz_ro h)

def zf_X7_neighbour (N : Nat) (S : zz_St) (p1 : Int32) (p2 : Int32) : Option Int32 := zz_b1 (zf_X7_layerOf N S p1) (fun x1 => zz_let x1 (fun x2 => zz_gd (!((zz_gi S 1) == 0)) (zz_let (p1 - p1 / (zz_gi S 1) * (zz_gi S 1)) (fun x3 => zz_b1 (zf_X7_rowOf N S p1) (fun x4 => zz_let x4 (fun x5 => if p2 = (0 : Int32) then (zz_b1 (zf_X7_cell N S (x2 - ((1 : Int32))) x3 x5) (fun x7 => some (x7))) else (if p2 = (1 : Int32) then (zz_b1 (zf_X7_cell N S x2 x3 (x5 - ((1 : Int32)))) (fun x9 => some (x9))) else (if p2 = (2 : Int32) then (zz_b1 (zf_X7_cell N S x2 (x3 - ((1 : Int32))) x5) (fun x11 => some (x11))) else (if p2 = (3 : Int32) then (zz_b1 (zf_X7_cell N S x2 (x3 + ((1 : Int32))) x5) (fun x13 => some (x13))) else (if p2 = (4 : Int32) then (zz_b1 (zf_X7_cell N S x2 x3 (x5 + ((1 : Int32)))) (fun x15 => some (x15))) else (zz_b1 (zf_X7_cell N S (x2 + ((1 : Int32))) x3 x5) (fun x16 => some (x16)))))))))))))
theorem zi_X7_neighbour_X7 : ∀ w ∈ wsX70, w ∈ wsX7_neighbour := by decide +kernel
theorem zm_X7_neighbour_66 : Cond.fieldLink RX7 66 "GridRipUpModel" "wide" "I" ∈ wsX7_neighbour := by decide +kernel
theorem zd_X7_neighbour : yX7_neighbour.cls = RX7 ∧ yX7_neighbour.cls ≠ "java/lang/invoke/MethodHandle" ∧ yX7_neighbour.cls ≠ "java/lang/invoke/VarHandle" ∧ (parseMethodDescriptor yX7_neighbour.desc).map (fun d => d.parameters.length) = some 2 := by decide +kernel
set_option maxHeartbeats 4000000 in
set_option maxRecDepth 100000 in
theorem zc_X7_neighbour (N : Nat) (l : Launch) (D : va_G) (k : Nat → ClassId) {a : Nat → Nat} (S : zz_St) (p1 : Int32) (p2 : Int32)  (v : Int32) (h : zf_X7_neighbour N S p1 p2 = some v) : zz_MI l yX7_neighbour wsX7_neighbour ({ frames := 1, cells := 0, slots := 0, locals := 24 } : Room) D k (zz_wM a k) [.ref (a 0), .int p1, .int p2] S (v, S) := by
  refine zz_metI (cc := cX7_neighbour) (nL := 6) (ty := .int) (by decide) rfl (Nat.le_of_ble_eq_true rfl) ?_
  intro X C hret
  have C : zz_ok X cX7_neighbour RX7 wsX7_neighbour k 6 ({ frames := 1, cells := 0, slots := 0, locals := 24 } : Room) := C
  unfold zf_X7_neighbour at h
  show zz_ww X (0, 0) (zz_wM a k S) 0 [(0, .ref (a 0)), (1, .int p1), (2, .int p2)] []
  refine zr_aln C 0 dX7_neighbour_0 rfl rfl rfl ?_
  refine zr_iln C 1 dX7_neighbour_1 rfl rfl rfl ?_
  refine zr_cVir (wf := (zz_wM a k)) (st := []) C (fun l D v hv => zc_X7_layerOf N l D k (a := a) S p1 v hv) gX7_neighbour_X7_layerOf rfl zd_X7_layerOf ⟨by decide, by decide⟩ ⟨by decide, by decide⟩ rfl ⟨0, 7, _, _, _, zk_M0, rfl⟩ (Nat.le_of_ble_eq_true rfl) rfl dX7_neighbour_2 rfl rfl h (fun x1 _ h => ?_)
  refine zr_isn C [1, 2, 3, 0] dX7_neighbour_5 rfl rfl (by decide) (fun x2 => [(0, .ref (a 0)), (1, .int p1), (2, .int p2), (3, .int x2)]) h (fun _ => rfl) (fun x2 h => ?_)
  refine zr_iln C 1 dX7_neighbour_6 rfl rfl rfl ?_
  refine zr_aln C 0 dX7_neighbour_7 rfl rfl rfl ?_
  refine zg_X7_1 C zi_X7_neighbour_X7 zm_X7_neighbour_66 dX7_neighbour_8 rfl ?_
  refine zr_irem C dX7_neighbour_11 rfl h (fun h => ?_)
  refine zr_is C [1, 2, 3, 4, 0] dX7_neighbour_12 rfl (by decide) (fun x3 => [(0, .ref (a 0)), (1, .int p1), (2, .int p2), (3, .int x2), (4, .int x3)]) h (fun _ => rfl) (fun x3 h => ?_)
  refine zr_aln C 0 dX7_neighbour_14 rfl rfl rfl ?_
  refine zr_iln C 1 dX7_neighbour_15 rfl rfl rfl ?_
  refine zr_cVir (wf := (zz_wM a k)) (st := []) C (fun l D v hv => zc_X7_rowOf N l D k (a := a) S p1 v hv) gX7_neighbour_X7_rowOf rfl zd_X7_rowOf ⟨by decide, by decide⟩ ⟨by decide, by decide⟩ rfl ⟨0, 7, _, _, _, zk_M0, rfl⟩ (Nat.le_of_ble_eq_true rfl) rfl dX7_neighbour_16 rfl rfl h (fun x4 _ h => ?_)
  refine zr_is C [1, 2, 3, 4, 5, 0] dX7_neighbour_19 rfl (by decide) (fun x5 => [(0, .ref (a 0)), (1, .int p1), (2, .int p2), (3, .int x2), (4, .int x3), (5, .int x5)]) h (fun _ => rfl) (fun x5 h => ?_)
  refine zr_iln C 2 dX7_neighbour_21 rfl rfl rfl ?_
  by_cases hc6 : p2 = (0 : Int32)
  · rw [if_pos hc6] at h
    refine zr_tabIn (v := (0 : Int32)) (tgt := 56) C dX7_neighbour_22 hc6 (by decide) (by decide) rfl (by decide) ?_
    refine zr_aln C 0 dX7_neighbour_56 rfl rfl rfl ?_
    refine zr_iln C 3 dX7_neighbour_57 rfl rfl rfl ?_
    refine zr_ic (v := (1 : Int32)) C dX7_neighbour_58 (by decide) rfl ?_
    refine zr_isub C dX7_neighbour_59 rfl ?_
    refine zr_il C 4 dX7_neighbour_60 rfl rfl ?_
    refine zr_il C 5 dX7_neighbour_62 rfl rfl ?_
    refine zr_cVir (wf := (zz_wM a k)) (st := []) C (fun l D v hv => zc_X7_cell N l D k (a := a) S (x2 - ((1 : Int32))) x3 x5 v hv) gX7_neighbour_X7_cell rfl zd_X7_cell ⟨by decide, by decide⟩ ⟨by decide, by decide⟩ rfl ⟨0, 7, _, _, _, zk_M0, rfl⟩ (Nat.le_of_ble_eq_true rfl) rfl dX7_neighbour_64 rfl rfl h (fun x7 _ h => ?_)
    exact hret x7 S 67 _ (0, 0) (by decide) (by decide) dX7_neighbour_67 rfl (zz_ro h)
  rw [if_neg hc6] at h
  by_cases hc8 : p2 = (1 : Int32)
  · rw [if_pos hc8] at h
    refine zr_tabIn (v := (1 : Int32)) (tgt := 68) C dX7_neighbour_22 hc8 (by decide) (by decide) rfl (by decide) ?_
    refine zr_aln C 0 dX7_neighbour_68 rfl rfl rfl ?_
    refine zr_iln C 3 dX7_neighbour_69 rfl rfl rfl ?_
    refine zr_il C 4 dX7_neighbour_70 rfl rfl ?_
    refine zr_il C 5 dX7_neighbour_72 rfl rfl ?_
    refine zr_ic (v := (1 : Int32)) C dX7_neighbour_74 (by decide) rfl ?_
    refine zr_isub C dX7_neighbour_75 rfl ?_
    refine zr_cVir (wf := (zz_wM a k)) (st := []) C (fun l D v hv => zc_X7_cell N l D k (a := a) S x2 x3 (x5 - ((1 : Int32))) v hv) gX7_neighbour_X7_cell rfl zd_X7_cell ⟨by decide, by decide⟩ ⟨by decide, by decide⟩ rfl ⟨0, 7, _, _, _, zk_M0, rfl⟩ (Nat.le_of_ble_eq_true rfl) rfl dX7_neighbour_76 rfl rfl h (fun x9 _ h => ?_)
    exact hret x9 S 79 _ (0, 0) (by decide) (by decide) dX7_neighbour_79 rfl (zz_ro h)
  rw [if_neg hc8] at h
  by_cases hc10 : p2 = (2 : Int32)
  · rw [if_pos hc10] at h
    refine zr_tabIn (v := (2 : Int32)) (tgt := 80) C dX7_neighbour_22 hc10 (by decide) (by decide) rfl (by decide) ?_
    refine zr_aln C 0 dX7_neighbour_80 rfl rfl rfl ?_
    refine zr_iln C 3 dX7_neighbour_81 rfl rfl rfl ?_
    refine zr_il C 4 dX7_neighbour_82 rfl rfl ?_
    refine zr_ic (v := (1 : Int32)) C dX7_neighbour_84 (by decide) rfl ?_
    refine zr_isub C dX7_neighbour_85 rfl ?_
    refine zr_il C 5 dX7_neighbour_86 rfl rfl ?_
    refine zr_cVir (wf := (zz_wM a k)) (st := []) C (fun l D v hv => zc_X7_cell N l D k (a := a) S x2 (x3 - ((1 : Int32))) x5 v hv) gX7_neighbour_X7_cell rfl zd_X7_cell ⟨by decide, by decide⟩ ⟨by decide, by decide⟩ rfl ⟨0, 7, _, _, _, zk_M0, rfl⟩ (Nat.le_of_ble_eq_true rfl) rfl dX7_neighbour_88 rfl rfl h (fun x11 _ h => ?_)
    exact hret x11 S 91 _ (0, 0) (by decide) (by decide) dX7_neighbour_91 rfl (zz_ro h)
  rw [if_neg hc10] at h
  by_cases hc12 : p2 = (3 : Int32)
  · rw [if_pos hc12] at h
    refine zr_tabIn (v := (3 : Int32)) (tgt := 92) C dX7_neighbour_22 hc12 (by decide) (by decide) rfl (by decide) ?_
    refine zr_aln C 0 dX7_neighbour_92 rfl rfl rfl ?_
    refine zr_iln C 3 dX7_neighbour_93 rfl rfl rfl ?_
    refine zr_il C 4 dX7_neighbour_94 rfl rfl ?_
    refine zr_ic (v := (1 : Int32)) C dX7_neighbour_96 (by decide) rfl ?_
    refine zr_iadd C dX7_neighbour_97 rfl ?_
    refine zr_il C 5 dX7_neighbour_98 rfl rfl ?_
    refine zr_cVir (wf := (zz_wM a k)) (st := []) C (fun l D v hv => zc_X7_cell N l D k (a := a) S x2 (x3 + ((1 : Int32))) x5 v hv) gX7_neighbour_X7_cell rfl zd_X7_cell ⟨by decide, by decide⟩ ⟨by decide, by decide⟩ rfl ⟨0, 7, _, _, _, zk_M0, rfl⟩ (Nat.le_of_ble_eq_true rfl) rfl dX7_neighbour_100 rfl rfl h (fun x13 _ h => ?_)
    exact hret x13 S 103 _ (0, 0) (by decide) (by decide) dX7_neighbour_103 rfl (zz_ro h)
  rw [if_neg hc12] at h
  by_cases hc14 : p2 = (4 : Int32)
  · rw [if_pos hc14] at h
    refine zr_tabIn (v := (4 : Int32)) (tgt := 104) C dX7_neighbour_22 hc14 (by decide) (by decide) rfl (by decide) ?_
    refine zr_aln C 0 dX7_neighbour_104 rfl rfl rfl ?_
    refine zr_iln C 3 dX7_neighbour_105 rfl rfl rfl ?_
    refine zr_il C 4 dX7_neighbour_106 rfl rfl ?_
    refine zr_il C 5 dX7_neighbour_108 rfl rfl ?_
    refine zr_ic (v := (1 : Int32)) C dX7_neighbour_110 (by decide) rfl ?_
    refine zr_iadd C dX7_neighbour_111 rfl ?_
    refine zr_cVir (wf := (zz_wM a k)) (st := []) C (fun l D v hv => zc_X7_cell N l D k (a := a) S x2 x3 (x5 + ((1 : Int32))) v hv) gX7_neighbour_X7_cell rfl zd_X7_cell ⟨by decide, by decide⟩ ⟨by decide, by decide⟩ rfl ⟨0, 7, _, _, _, zk_M0, rfl⟩ (Nat.le_of_ble_eq_true rfl) rfl dX7_neighbour_112 rfl rfl h (fun x15 _ h => ?_)
    exact hret x15 S 115 _ (0, 0) (by decide) (by decide) dX7_neighbour_115 rfl (zz_ro h)
  rw [if_neg hc14] at h
  have ho : (p2).toInt < 0 ∨ 4 < (p2).toInt := by
    have q0 := lv_neT hc6 (show ((0 : Int32)).toInt = 0 by decide)
    have q1 := lv_neT hc8 (show ((1 : Int32)).toInt = 1 by decide)
    have q2 := lv_neT hc10 (show ((2 : Int32)).toInt = 2 by decide)
    have q3 := lv_neT hc12 (show ((3 : Int32)).toInt = 3 by decide)
    have q4 := lv_neT hc14 (show ((4 : Int32)).toInt = 4 by decide)
    omega
  refine zr_tabOut (tgt := 116) C dX7_neighbour_22 ho (by decide) ?_
  refine zr_aln C 0 dX7_neighbour_116 rfl rfl rfl ?_
  refine zr_iln C 3 dX7_neighbour_117 rfl rfl rfl ?_
  refine zr_ic (v := (1 : Int32)) C dX7_neighbour_118 (by decide) rfl ?_
  refine zr_iadd C dX7_neighbour_119 rfl ?_
  refine zr_il C 4 dX7_neighbour_120 rfl rfl ?_
  refine zr_il C 5 dX7_neighbour_122 rfl rfl ?_
  refine zr_cVir (wf := (zz_wM a k)) (st := []) C (fun l D v hv => zc_X7_cell N l D k (a := a) S (x2 + ((1 : Int32))) x3 x5 v hv) gX7_neighbour_X7_cell rfl zd_X7_cell ⟨by decide, by decide⟩ ⟨by decide, by decide⟩ rfl ⟨0, 7, _, _, _, zk_M0, rfl⟩ (Nat.le_of_ble_eq_true rfl) rfl dX7_neighbour_124 rfl rfl h (fun x16 _ h => ?_)
  exact hret x16 S 127 _ (0, 0) (by decide) (by decide) dX7_neighbour_127 rfl (zz_ro h)

def zf_X7_isNet (N : Nat) (S : zz_St) (p1 : Int32) : Option Int32 := zz_jn1 (fun (v1 : Int32) => zz_gd (zz_bl v1) (some (v1))) (fun j2 => zz_jn1 (fun (u4 : Unit) => j2 ((0 : Int32))) (fun j5 => if p1 < 0 then (j5 ()) else (if (zz_gi S 4) ≤ p1 then (j5 ()) else (j2 ((1 : Int32))))))
theorem zi_X7_isNet_X7 : ∀ w ∈ wsX70, w ∈ wsX7_isNet := by decide +kernel
theorem zm_X7_isNet_94 : Cond.fieldLink RX7 94 "GridRipUpModel" "nets" "I" ∈ wsX7_isNet := by decide +kernel
theorem zd_X7_isNet : yX7_isNet.cls = RX7 ∧ yX7_isNet.cls ≠ "java/lang/invoke/MethodHandle" ∧ yX7_isNet.cls ≠ "java/lang/invoke/VarHandle" ∧ (parseMethodDescriptor yX7_isNet.desc).map (fun d => d.parameters.length) = some 1 := by decide +kernel
set_option maxHeartbeats 4000000 in
set_option maxRecDepth 100000 in
theorem zc_X7_isNet (N : Nat) (l : Launch) (D : va_G) (k : Nat → ClassId) {a : Nat → Nat} (S : zz_St) (p1 : Int32)  (v : Int32) (h : zf_X7_isNet N S p1 = some v) : zz_MI l yX7_isNet wsX7_isNet ({ frames := 0, cells := 0, slots := 0, locals := 0 } : Room) D k (zz_wM a k) [.ref (a 0), .int p1] S (v, S) := by
  refine zz_metI (cc := cX7_isNet) (nL := 2) (ty := .boolean) (by decide) rfl (Nat.le_of_ble_eq_true rfl) ?_
  intro X C hret
  have C : zz_ok X cX7_isNet RX7 wsX7_isNet k 2 ({ frames := 0, cells := 0, slots := 0, locals := 0 } : Room) := C
  unfold zf_X7_isNet at h
  show zz_ww X (0, 0) (zz_wM a k S) 0 [(0, .ref (a 0)), (1, .int p1)] []
  refine zr_iln C 1 dX7_isNet_0 rfl rfl rfl ?_
  refine zz_jn1_W h (fun (v1 : Int32) => zz_ww X (0, 0) (zz_wM a k S) 17 [] [.int v1]) ?_ ?_
  · intro v1 h
    obtain ⟨hb, h⟩ := zz_gd_some h
    exact hret v1 S 17 _ (0, 0) (by decide) (by decide) dX7_isNet_17 (zz_bl_nar hb) (zz_ro h)
  intro j2 hj3 h
  refine zz_jn1_W h (fun (u4 : Unit) => zz_ww X (0, 0) (zz_wM a k S) 16 [] []) ?_ ?_
  · intro u4 h
    refine zr_ic (v := (0 : Int32)) C dX7_isNet_16 (by decide) rfl ?_
    exact hj3 ((0 : Int32)) h
  intro j5 hj6 h
  refine zr_if_lt (tgt := 16) C dX7_isNet_1 (by decide) rfl h (fun h => ?_) (fun h => ?_)
  · refine zr_sub [] rfl ?_
    exact hj6 () h
  · refine zr_iln C 1 dX7_isNet_4 rfl rfl rfl ?_
    refine zr_aln C 0 dX7_isNet_5 rfl rfl rfl ?_
    refine zg_X7_5 C zi_X7_isNet_X7 zm_X7_isNet_94 dX7_isNet_6 rfl ?_
    refine zr_icmp_ge (tgt := 16) C dX7_isNet_9 (by decide) rfl h (fun h => ?_) (fun h => ?_)
    · refine zr_sub [] rfl ?_
      exact hj6 () h
    · refine zr_ic (v := (1 : Int32)) C dX7_isNet_12 (by decide) rfl ?_
      refine zr_goto (tgt := 17) C dX7_isNet_13 (by decide) ?_
      refine zr_sub [] rfl ?_
      exact hj3 ((1 : Int32)) h

def zf_X7_bar (N : Nat) (S : zz_St) (p1 : Int32) (p2 : Int32) (p3 : Int32) : Option (Int32 × zz_St) := zz_b1 (zf_X7_cell N S p1 p2 p3) (fun x1 => zz_let x1 (fun x2 => zz_jn1 (fun (v3 : Int32) => zz_let (zz_si S 0 v3) (fun S6 => zz_jn1 (fun (u7 : Unit) => some ((0 : Int32), S6)) (fun j8 => if (zz_gi S6 0) = 0 then (zz_gd (zz_in x2 1024) (if (zz_ga S6 5 x2.toNatClampNeg) = 0 then (zz_gd (zz_in x2 1024) (if (zz_ga S6 3 x2.toNatClampNeg) = ((-1 : Int32)) then (zz_gd (zz_in x2 1024) (zz_let (zz_sa S6 5 (upd (zz_ga S6 5) x2.toNatClampNeg (vp_nar .boolean ((1 : Int32))))) (fun S10 => some ((1 : Int32), S10)))) else (j8 ()))) else (j8 ()))) else (j8 ())))) (fun j4 => if x2 = ((-1 : Int32)) then (j4 ((1 : Int32))) else (j4 ((0 : Int32))))))
theorem zi_X7_bar_X7 : ∀ w ∈ wsX70, w ∈ wsX7_bar := by decide +kernel
theorem zm_X7_bar_80 : Cond.fieldLink RX7 80 "GridRipUpModel" "thrown" "I" ∈ wsX7_bar := by decide +kernel
theorem zm_X7_bar_23 : Cond.fieldLink RX7 23 "GridRipUpModel" "barred" "[Z" ∈ wsX7_bar := by decide +kernel
theorem zm_X7_bar_16 : Cond.fieldLink RX7 16 "GridRipUpModel" "holder" "[I" ∈ wsX7_bar := by decide +kernel
theorem zd_X7_bar : yX7_bar.cls = RX7 ∧ yX7_bar.cls ≠ "java/lang/invoke/MethodHandle" ∧ yX7_bar.cls ≠ "java/lang/invoke/VarHandle" ∧ (parseMethodDescriptor yX7_bar.desc).map (fun d => d.parameters.length) = some 3 := by decide +kernel
set_option maxHeartbeats 4000000 in
set_option maxRecDepth 100000 in
theorem zc_X7_bar (N : Nat) (l : Launch) (D : va_G) (k : Nat → ClassId) {a : Nat → Nat} (S : zz_St) (p1 : Int32) (p2 : Int32) (p3 : Int32)  (v : Int32) (u : zz_St) (h : zf_X7_bar N S p1 p2 p3 = some (v, u)) : zz_MI l yX7_bar wsX7_bar ({ frames := 1, cells := 0, slots := 0, locals := 24 } : Room) D k (zz_wM a k) [.ref (a 0), .int p1, .int p2, .int p3] S (v, u) := by
  refine zz_metI (cc := cX7_bar) (nL := 5) (ty := .boolean) (by decide) rfl (Nat.le_of_ble_eq_true rfl) ?_
  intro X C hret
  have C : zz_ok X cX7_bar RX7 wsX7_bar k 5 ({ frames := 1, cells := 0, slots := 0, locals := 24 } : Room) := C
  unfold zf_X7_bar at h
  show zz_ww X (0, 0) (zz_wM a k S) 0 [(0, .ref (a 0)), (1, .int p1), (2, .int p2), (3, .int p3)] []
  refine zr_aln C 0 dX7_bar_0 rfl rfl rfl ?_
  refine zr_iln C 1 dX7_bar_1 rfl rfl rfl ?_
  refine zr_iln C 2 dX7_bar_2 rfl rfl rfl ?_
  refine zr_iln C 3 dX7_bar_3 rfl rfl rfl ?_
  refine zr_cVir (wf := (zz_wM a k)) (st := []) C (fun l D v hv => zc_X7_cell N l D k (a := a) S p1 p2 p3 v hv) gX7_bar_X7_cell rfl zd_X7_cell ⟨by decide, by decide⟩ ⟨by decide, by decide⟩ rfl ⟨0, 7, _, _, _, zk_M0, rfl⟩ (Nat.le_of_ble_eq_true rfl) rfl dX7_bar_4 rfl rfl h (fun x1 _ h => ?_)
  refine zr_is C [1, 2, 3, 4, 0] dX7_bar_7 rfl (by decide) (fun x2 => [(0, .ref (a 0)), (1, .int p1), (2, .int p2), (3, .int p3), (4, .int x2)]) h (fun _ => rfl) (fun x2 h => ?_)
  refine zr_aln C 0 dX7_bar_9 rfl rfl rfl ?_
  refine zr_il C 4 dX7_bar_10 rfl rfl ?_
  refine zr_ic (v := (-1 : Int32)) C dX7_bar_12 (by decide) rfl ?_
  refine zz_jn1_W h (fun (v3 : Int32) => zz_ww X (0, 0) (zz_wM a k S) 21 [(0, .ref (a 0)), (4, .int x2)] [.int v3, .ref (a 0)]) ?_ ?_
  · intro v3 h
    refine zp_X7_0 C zi_X7_bar_X7 zm_X7_bar_80 dX7_bar_21 rfl h (fun S6 h => ?_)
    refine zr_aln C 0 dX7_bar_24 rfl rfl rfl ?_
    refine zg_X7_0 C zi_X7_bar_X7 zm_X7_bar_80 dX7_bar_25 rfl ?_
    refine zz_jn1_W h (fun (u7 : Unit) => zz_ww X (0, 0) (zz_wM a k S6) 52 [] []) ?_ ?_
    · intro u7 h
      refine zr_ic (v := (0 : Int32)) C dX7_bar_52 (by decide) rfl ?_
      exact hret ((0 : Int32)) S6 53 _ (0, 0) (by decide) (by decide) dX7_bar_53 rfl h
    intro j8 hj9 h
    refine zr_if_ne (tgt := 52) C dX7_bar_28 (by decide) rfl h (fun h => ?_) (fun h => ?_)
    · refine zr_sub [] rfl ?_
      exact hj9 () h
    · refine zr_aln C 0 dX7_bar_31 rfl rfl rfl ?_
      refine zg_X7_10 C zi_X7_bar_X7 zm_X7_bar_23 dX7_bar_32 rfl ?_
      refine zr_il C 1 dX7_bar_35 rfl rfl ?_
      refine zl_M5 C dX7_bar_37 rfl h (fun h => ?_)
      refine zr_if_ne (tgt := 52) C dX7_bar_38 (by decide) rfl h (fun h => ?_) (fun h => ?_)
      · refine zr_sub [] rfl ?_
        exact hj9 () h
      · refine zr_aln C 0 dX7_bar_41 rfl rfl rfl ?_
        refine zg_X7_8 C zi_X7_bar_X7 zm_X7_bar_16 dX7_bar_42 rfl ?_
        refine zr_il C 1 dX7_bar_45 rfl rfl ?_
        refine zl_M3 C dX7_bar_47 rfl h (fun h => ?_)
        refine zr_ic (v := (-1 : Int32)) C dX7_bar_48 (by decide) rfl ?_
        refine zr_icmp_eq (tgt := 54) C dX7_bar_49 (by decide) rfl h (fun h => ?_) (fun h => ?_)
        · refine zr_aln C 0 dX7_bar_54 rfl rfl rfl ?_
          refine zg_X7_10 C zi_X7_bar_X7 zm_X7_bar_23 dX7_bar_55 rfl ?_
          refine zr_il C 1 dX7_bar_58 rfl rfl ?_
          refine zr_ic (v := (1 : Int32)) C dX7_bar_60 (by decide) rfl ?_
          refine zs_M5 C dX7_bar_61 rfl h (fun S10 h => ?_)
          refine zr_ic (v := (1 : Int32)) C dX7_bar_62 (by decide) rfl ?_
          exact hret ((1 : Int32)) S10 63 _ (0, 0) (by decide) (by decide) dX7_bar_63 rfl h
        · refine zr_sub [] rfl ?_
          exact hj9 () h
  intro j4 hj5 h
  refine zr_icmp_ne (tgt := 20) C dX7_bar_13 (by decide) rfl h (fun h => ?_) (fun h => ?_)
  · refine zr_ic (v := (0 : Int32)) C dX7_bar_20 (by decide) rfl ?_
    refine zr_sub [0, 4] rfl ?_
    exact hj5 ((0 : Int32)) h
  · refine zr_ic (v := (1 : Int32)) C dX7_bar_16 (by decide) rfl ?_
    refine zr_goto (tgt := 21) C dX7_bar_17 (by decide) ?_
    refine zr_sub [0, 4] rfl ?_
    exact hj5 ((1 : Int32)) h

def zf_X7_net (N : Nat) (S : zz_St)  : Option (Int32 × zz_St) := zz_let (zz_si S 0 ((0 : Int32))) (fun S1 => if (zz_gi S1 4) = ((12 : Int32)) then (some ((-1 : Int32), S1)) else (zz_let (zz_si S1 4 ((zz_gi S1 4) + ((1 : Int32)))) (fun S2 => some ((zz_gi S2 4) - ((1 : Int32)), S2))))
theorem zi_X7_net_X7 : ∀ w ∈ wsX70, w ∈ wsX7_net := by decide +kernel
theorem zm_X7_net_80 : Cond.fieldLink RX7 80 "GridRipUpModel" "thrown" "I" ∈ wsX7_net := by decide +kernel
theorem zm_X7_net_94 : Cond.fieldLink RX7 94 "GridRipUpModel" "nets" "I" ∈ wsX7_net := by decide +kernel
theorem zd_X7_net : yX7_net.cls = RX7 ∧ yX7_net.cls ≠ "java/lang/invoke/MethodHandle" ∧ yX7_net.cls ≠ "java/lang/invoke/VarHandle" ∧ (parseMethodDescriptor yX7_net.desc).map (fun d => d.parameters.length) = some 0 := by decide +kernel
set_option maxHeartbeats 4000000 in
set_option maxRecDepth 100000 in
theorem zc_X7_net (N : Nat) (l : Launch) (D : va_G) (k : Nat → ClassId) {a : Nat → Nat} (S : zz_St)   (v : Int32) (u : zz_St) (h : zf_X7_net N S  = some (v, u)) : zz_MI l yX7_net wsX7_net ({ frames := 0, cells := 0, slots := 0, locals := 0 } : Room) D k (zz_wM a k) [.ref (a 0)] S (v, u) := by
  refine zz_metI (cc := cX7_net) (nL := 1) (ty := .int) (by decide) rfl (Nat.le_of_ble_eq_true rfl) ?_
  intro X C hret
  have C : zz_ok X cX7_net RX7 wsX7_net k 1 ({ frames := 0, cells := 0, slots := 0, locals := 0 } : Room) := C
  unfold zf_X7_net at h
  show zz_ww X (0, 0) (zz_wM a k S) 0 [(0, .ref (a 0))] []
  refine zr_aln C 0 dX7_net_0 rfl rfl rfl ?_
  refine zr_ic (v := (0 : Int32)) C dX7_net_1 (by decide) rfl ?_
  refine zp_X7_0 C zi_X7_net_X7 zm_X7_net_80 dX7_net_2 rfl h (fun S1 h => ?_)
  refine zr_aln C 0 dX7_net_5 rfl rfl rfl ?_
  refine zg_X7_5 C zi_X7_net_X7 zm_X7_net_94 dX7_net_6 rfl ?_
  refine zr_bi (v := (12 : Int32)) C dX7_net_9 (by decide) rfl ?_
  refine zr_icmp_ne (tgt := 16) C dX7_net_11 (by decide) rfl h (fun h => ?_) (fun h => ?_)
  · refine zr_aln C 0 dX7_net_16 rfl rfl rfl ?_
    refine zr_dup C dX7_net_17 rfl rfl ?_
    refine zg_X7_5 C zi_X7_net_X7 zm_X7_net_94 dX7_net_18 rfl ?_
    refine zr_ic (v := (1 : Int32)) C dX7_net_21 (by decide) rfl ?_
    refine zr_iadd C dX7_net_22 rfl ?_
    refine zp_X7_5 C zi_X7_net_X7 zm_X7_net_94 dX7_net_23 rfl h (fun S2 h => ?_)
    refine zr_aln C 0 dX7_net_26 rfl rfl rfl ?_
    refine zg_X7_5 C zi_X7_net_X7 zm_X7_net_94 dX7_net_27 rfl ?_
    refine zr_ic (v := (1 : Int32)) C dX7_net_30 (by decide) rfl ?_
    refine zr_isub C dX7_net_31 rfl ?_
    exact hret ((zz_gi S2 4) - ((1 : Int32))) S2 32 _ (0, 0) (by decide) (by decide) dX7_net_32 rfl h
  · refine zr_ic (v := (-1 : Int32)) C dX7_net_14 (by decide) rfl ?_
    exact hret ((-1 : Int32)) S1 15 _ (0, 0) (by decide) (by decide) dX7_net_15 rfl h

def zf_X7_loosen (N : Nat) (S : zz_St) (p1 : Int32) : Option zz_St := zz_let ((0 : Int32)) (fun x1 => zz_fix2 (fun rc4 (v2 : Int32) (S3 : zz_St) => if ((1024 : Int32)) ≤ v2 then (zz_gd (zz_in p1 12) (zz_let (zz_sa S3 10 (upd (zz_ga S3 10) p1.toNatClampNeg (vp_nar .boolean ((0 : Int32))))) (fun S6 => zz_gd (zz_in p1 12) (zz_let (zz_sa S6 11 (upd (zz_ga S6 11) p1.toNatClampNeg ((0 : Int32)))) (fun S7 => some S7))))) else (zz_gd (zz_in v2 1024) (zz_jn1 (fun (v8 : Int32) => zz_gd (zz_in v2 1024) (zz_let (zz_sa S3 3 (upd (zz_ga S3 3) v2.toNatClampNeg v8)) (fun S11 => zz_let (v2 + (1 : Int32)) (fun x12 => rc4 x12 S11)))) (fun j9 => zz_jn1 (fun (u13 : Unit) => zz_gd (zz_in v2 1024) (j9 (zz_ga S3 3 v2.toNatClampNeg))) (fun j14 => if (zz_ga S3 3 v2.toNatClampNeg) = p1 then (zz_gd (zz_in v2 1024) (if (zz_ga S3 4 v2.toNatClampNeg) = 0 then (j9 ((-1 : Int32))) else (j14 ()))) else (j14 ())))))) N x1 S)
theorem zi_X7_loosen_X7 : ∀ w ∈ wsX70, w ∈ wsX7_loosen := by decide +kernel
theorem zm_X7_loosen_39 : Cond.fieldLink RX7 39 "GridRipUpModel" "led" "[Z" ∈ wsX7_loosen := by decide +kernel
theorem zm_X7_loosen_42 : Cond.fieldLink RX7 42 "GridRipUpModel" "treeSize" "[I" ∈ wsX7_loosen := by decide +kernel
theorem zm_X7_loosen_16 : Cond.fieldLink RX7 16 "GridRipUpModel" "holder" "[I" ∈ wsX7_loosen := by decide +kernel
theorem zm_X7_loosen_19 : Cond.fieldLink RX7 19 "GridRipUpModel" "isPin" "[Z" ∈ wsX7_loosen := by decide +kernel
theorem zd_X7_loosen : yX7_loosen.cls = RX7 ∧ yX7_loosen.cls ≠ "java/lang/invoke/MethodHandle" ∧ yX7_loosen.cls ≠ "java/lang/invoke/VarHandle" ∧ (parseMethodDescriptor yX7_loosen.desc).map (fun d => d.parameters.length) = some 1 := by decide +kernel
set_option maxHeartbeats 4000000 in
set_option maxRecDepth 100000 in
theorem zc_X7_loosen (N : Nat) (l : Launch) (D : va_G) (k : Nat → ClassId) {a : Nat → Nat} (S : zz_St) (p1 : Int32)  (u : zz_St) (h : zf_X7_loosen N S p1 = some u) : zz_MV l yX7_loosen wsX7_loosen ({ frames := 0, cells := 0, slots := 0, locals := 0 } : Room) D k (zz_wM a k) [.ref (a 0), .int p1] S u := by
  refine zz_metV (cc := cX7_loosen) (nL := 3) (by decide) rfl (Nat.le_of_ble_eq_true rfl) ?_
  intro X C hret
  have C : zz_ok X cX7_loosen RX7 wsX7_loosen k 3 ({ frames := 0, cells := 0, slots := 0, locals := 0 } : Room) := C
  unfold zf_X7_loosen at h
  show zz_ww X (0, 0) (zz_wM a k S) 0 [(0, .ref (a 0)), (1, .int p1)] []
  refine zr_ic (v := (0 : Int32)) C dX7_loosen_0 (by decide) rfl ?_
  refine zr_isn C [1, 2, 0] dX7_loosen_1 rfl rfl (by decide) (fun x1 => [(0, .ref (a 0)), (1, .int p1), (2, .int x1)]) h (fun _ => rfl) (fun x1 h => ?_)
  refine zz_fix2_W (fun (v2 : Int32) (S3 : zz_St) => zz_ww X (0, 0) (zz_wM a k S3) 2 [(0, .ref (a 0)), (1, .int p1), (2, .int v2)] []) ?_ N x1 S h
  intro rc4 hr5 v2 S3 h
  refine zr_iln C 2 dX7_loosen_2 rfl rfl rfl ?_
  refine zr_si (v := (1024 : Int32)) C dX7_loosen_3 (by decide) rfl ?_
  refine zr_icmp_ge (tgt := 50) C dX7_loosen_6 (by decide) rfl h (fun h => ?_) (fun h => ?_)
  · refine zr_aln C 0 dX7_loosen_50 rfl rfl rfl ?_
    refine zg_X7_15 C zi_X7_loosen_X7 zm_X7_loosen_39 dX7_loosen_51 rfl ?_
    refine zr_iln C 1 dX7_loosen_54 rfl rfl rfl ?_
    refine zr_ic (v := (0 : Int32)) C dX7_loosen_55 (by decide) rfl ?_
    refine zs_M10 C dX7_loosen_56 rfl h (fun S6 h => ?_)
    refine zr_aln C 0 dX7_loosen_57 rfl rfl rfl ?_
    refine zg_X7_16 C zi_X7_loosen_X7 zm_X7_loosen_42 dX7_loosen_58 rfl ?_
    refine zr_iln C 1 dX7_loosen_61 rfl rfl rfl ?_
    refine zr_ic (v := (0 : Int32)) C dX7_loosen_62 (by decide) rfl ?_
    refine zs_M11 C dX7_loosen_63 rfl h (fun S7 h => ?_)
    exact hret S7 64 _ (0, 0) (by decide) (by decide) dX7_loosen_64 h
  · refine zr_aln C 0 dX7_loosen_9 rfl rfl rfl ?_
    refine zg_X7_8 C zi_X7_loosen_X7 zm_X7_loosen_16 dX7_loosen_10 rfl ?_
    refine zr_iln C 2 dX7_loosen_13 rfl rfl rfl ?_
    refine zr_aln C 0 dX7_loosen_14 rfl rfl rfl ?_
    refine zg_X7_8 C zi_X7_loosen_X7 zm_X7_loosen_16 dX7_loosen_15 rfl ?_
    refine zr_iln C 2 dX7_loosen_18 rfl rfl rfl ?_
    refine zl_M3 C dX7_loosen_19 rfl h (fun h => ?_)
    refine zr_iln C 1 dX7_loosen_20 rfl rfl rfl ?_
    refine zz_jn1_W h (fun (v8 : Int32) => zz_ww X (0, 0) (zz_wM a k S3) 43 [(0, .ref (a 0)), (1, .int p1), (2, .int v2)] [.int v8, .int v2, .ref (a 3)]) ?_ ?_
    · intro v8 h
      refine zs_M3 C dX7_loosen_43 rfl h (fun S11 h => ?_)
      refine zr_iinc (v := (1 : Int32)) C 2 [1, 2, 0] dX7_loosen_44 rfl (by decide) rfl (by decide) (fun x12 => [(0, .ref (a 0)), (1, .int p1), (2, .int x12)]) h (fun _ => rfl) (fun x12 h => ?_)
      refine zr_goto (tgt := 2) C dX7_loosen_47 (by decide) ?_
      exact hr5 x12 S11 h
    intro j9 hj10 h
    refine zz_jn1_W h (fun (u13 : Unit) => zz_ww X (0, 0) (zz_wM a k S3) 37 [(0, .ref (a 0)), (1, .int p1), (2, .int v2)] [.int v2, .ref (a 3)]) ?_ ?_
    · intro u13 h
      refine zr_aln C 0 dX7_loosen_37 rfl rfl rfl ?_
      refine zg_X7_8 C zi_X7_loosen_X7 zm_X7_loosen_16 dX7_loosen_38 rfl ?_
      refine zr_iln C 2 dX7_loosen_41 rfl rfl rfl ?_
      refine zl_M3 C dX7_loosen_42 rfl h (fun h => ?_)
      exact hj10 (zz_ga S3 3 v2.toNatClampNeg) h
    intro j14 hj15 h
    refine zr_icmp_ne (tgt := 37) C dX7_loosen_21 (by decide) rfl h (fun h => ?_) (fun h => ?_)
    · exact hj15 () h
    · refine zr_aln C 0 dX7_loosen_24 rfl rfl rfl ?_
      refine zg_X7_9 C zi_X7_loosen_X7 zm_X7_loosen_19 dX7_loosen_25 rfl ?_
      refine zr_iln C 2 dX7_loosen_28 rfl rfl rfl ?_
      refine zl_M4 C dX7_loosen_29 rfl h (fun h => ?_)
      refine zr_if_ne (tgt := 37) C dX7_loosen_30 (by decide) rfl h (fun h => ?_) (fun h => ?_)
      · exact hj15 () h
      · refine zr_ic (v := (-1 : Int32)) C dX7_loosen_33 (by decide) rfl ?_
        refine zr_goto (tgt := 43) C dX7_loosen_34 (by decide) ?_
        exact hj10 ((-1 : Int32)) h

def zf_X7_pin (N : Nat) (S : zz_St) (p1 : Int32) (p2 : Int32) (p3 : Int32) (p4 : Int32) : Option (Int32 × zz_St) := zz_b1 (zf_X7_cell N S p2 p3 p4) (fun x1 => zz_let x1 (fun x2 => zz_b1 (zf_X7_isNet N S p1) (fun x3 => zz_jn1 (fun (v4 : Int32) => zz_let (zz_si S 0 v4) (fun S7 => if (zz_gi S7 0) = 0 then (zz_gd (zz_in x2 1024) (zz_jn1 (fun (v8 : Int32) => zz_let v8 (fun x11 => zz_gd (zz_in x2 1024) (zz_jn1 (fun (u12 : Unit) => some ((0 : Int32), S7)) (fun j13 => if (zz_ga S7 5 x2.toNatClampNeg) = 0 then (if x11 = 0 then (zz_gd (zz_in x2 1024) (zz_jn1 (fun (u15 : Unit) => zz_gd (zz_in p1 12) (if (zz_ga S7 1 p1.toNatClampNeg) = ((5 : Int32)) then (j13 ()) else (zz_b1 (zf_X7_loosen N S7 p1) (fun S18 => zz_gd (zz_in p1 12) (zz_gd (zz_in ((((5 : Int32)) * p1) + (zz_ga S18 1 p1.toNatClampNeg)) 60) (zz_let (zz_sa S18 2 (upd (zz_ga S18 2) ((((5 : Int32)) * p1) + (zz_ga S18 1 p1.toNatClampNeg)).toNatClampNeg x2)) (fun S19 => zz_gd (zz_in p1 12) (zz_gd (zz_in p1 12) (zz_let (zz_sa S19 1 (upd (zz_ga S19 1) p1.toNatClampNeg ((zz_ga S19 1 p1.toNatClampNeg) + ((1 : Int32))))) (fun S20 => zz_gd (zz_in x2 1024) (zz_let (zz_sa S20 3 (upd (zz_ga S20 3) x2.toNatClampNeg p1)) (fun S21 => zz_gd (zz_in x2 1024) (zz_let (zz_sa S21 4 (upd (zz_ga S21 4) x2.toNatClampNeg (vp_nar .boolean ((1 : Int32))))) (fun S22 => some ((1 : Int32), S22))))))))))))))) (fun j16 => if (zz_ga S7 3 x2.toNatClampNeg) = ((-1 : Int32)) then (j16 ()) else (zz_gd (zz_in x2 1024) (if (zz_ga S7 3 x2.toNatClampNeg) = p1 then (j16 ()) else (j13 ())))))) else (j13 ())) else (j13 ()))))) (fun j9 => zz_jn1 (fun (u23 : Unit) => j9 ((0 : Int32))) (fun j24 => if (zz_ga S7 4 x2.toNatClampNeg) = 0 then (j24 ()) else (zz_gd (zz_in x2 1024) (if (zz_ga S7 3 x2.toNatClampNeg) = p1 then (j9 ((1 : Int32))) else (j24 ()))))))) else (some ((0 : Int32), S7)))) (fun j5 => zz_jn1 (fun (u26 : Unit) => j5 ((1 : Int32))) (fun j27 => if x3 = 0 then (j27 ()) else (if x2 = ((-1 : Int32)) then (j27 ()) else (j5 ((0 : Int32)))))))))
theorem zi_X7_pin_X7 : ∀ w ∈ wsX70, w ∈ wsX7_pin := by decide +kernel
theorem zm_X7_pin_80 : Cond.fieldLink RX7 80 "GridRipUpModel" "thrown" "I" ∈ wsX7_pin := by decide +kernel
theorem zm_X7_pin_19 : Cond.fieldLink RX7 19 "GridRipUpModel" "isPin" "[Z" ∈ wsX7_pin := by decide +kernel
theorem zm_X7_pin_23 : Cond.fieldLink RX7 23 "GridRipUpModel" "barred" "[Z" ∈ wsX7_pin := by decide +kernel
theorem zm_X7_pin_16 : Cond.fieldLink RX7 16 "GridRipUpModel" "holder" "[I" ∈ wsX7_pin := by decide +kernel
theorem zm_X7_pin_7 : Cond.fieldLink RX7 7 "GridRipUpModel" "pinCount" "[I" ∈ wsX7_pin := by decide +kernel
theorem zm_X7_pin_13 : Cond.fieldLink RX7 13 "GridRipUpModel" "pins" "[I" ∈ wsX7_pin := by decide +kernel
theorem zd_X7_pin : yX7_pin.cls = RX7 ∧ yX7_pin.cls ≠ "java/lang/invoke/MethodHandle" ∧ yX7_pin.cls ≠ "java/lang/invoke/VarHandle" ∧ (parseMethodDescriptor yX7_pin.desc).map (fun d => d.parameters.length) = some 4 := by decide +kernel
set_option maxHeartbeats 4000000 in
set_option maxRecDepth 100000 in
theorem zc_X7_pin (N : Nat) (l : Launch) (D : va_G) (k : Nat → ClassId) {a : Nat → Nat} (S : zz_St) (p1 : Int32) (p2 : Int32) (p3 : Int32) (p4 : Int32)  (v : Int32) (u : zz_St) (h : zf_X7_pin N S p1 p2 p3 p4 = some (v, u)) : zz_MI l yX7_pin wsX7_pin ({ frames := 1, cells := 0, slots := 0, locals := 24 } : Room) D k (zz_wM a k) [.ref (a 0), .int p1, .int p2, .int p3, .int p4] S (v, u) := by
  refine zz_metI (cc := cX7_pin) (nL := 7) (ty := .boolean) (by decide) rfl (Nat.le_of_ble_eq_true rfl) ?_
  intro X C hret
  have C : zz_ok X cX7_pin RX7 wsX7_pin k 7 ({ frames := 1, cells := 0, slots := 0, locals := 24 } : Room) := C
  unfold zf_X7_pin at h
  show zz_ww X (0, 0) (zz_wM a k S) 0 [(0, .ref (a 0)), (1, .int p1), (2, .int p2), (3, .int p3), (4, .int p4)] []
  refine zr_aln C 0 dX7_pin_0 rfl rfl rfl ?_
  refine zr_iln C 2 dX7_pin_1 rfl rfl rfl ?_
  refine zr_iln C 3 dX7_pin_2 rfl rfl rfl ?_
  refine zr_il C 4 dX7_pin_3 rfl rfl ?_
  refine zr_cVir (wf := (zz_wM a k)) (st := []) C (fun l D v hv => zc_X7_cell N l D k (a := a) S p2 p3 p4 v hv) gX7_pin_X7_cell rfl zd_X7_cell ⟨by decide, by decide⟩ ⟨by decide, by decide⟩ rfl ⟨0, 7, _, _, _, zk_M0, rfl⟩ (Nat.le_of_ble_eq_true rfl) rfl dX7_pin_5 rfl rfl h (fun x1 _ h => ?_)
  refine zr_is C [1, 2, 3, 4, 5, 0] dX7_pin_8 rfl (by decide) (fun x2 => [(0, .ref (a 0)), (1, .int p1), (2, .int p2), (3, .int p3), (4, .int p4), (5, .int x2)]) h (fun _ => rfl) (fun x2 h => ?_)
  refine zr_aln C 0 dX7_pin_10 rfl rfl rfl ?_
  refine zr_aln C 0 dX7_pin_11 rfl rfl rfl ?_
  refine zr_iln C 1 dX7_pin_12 rfl rfl rfl ?_
  refine zr_cVir (wf := (zz_wM a k)) (st := [.ref (a 0)]) C (fun l D v hv => zc_X7_isNet N l D k (a := a) S p1 v hv) gX7_pin_X7_isNet rfl zd_X7_isNet ⟨by decide, by decide⟩ ⟨by decide, by decide⟩ rfl ⟨0, 7, _, _, _, zk_M0, rfl⟩ (Nat.le_of_ble_eq_true rfl) rfl dX7_pin_13 rfl rfl h (fun x3 _ h => ?_)
  refine zz_jn1_W h (fun (v4 : Int32) => zz_ww X (0, 0) (zz_wM a k S) 30 [(0, .ref (a 0)), (1, .int p1), (5, .int x2)] [.int v4, .ref (a 0)]) ?_ ?_
  · intro v4 h
    refine zp_X7_0 C zi_X7_pin_X7 zm_X7_pin_80 dX7_pin_30 rfl h (fun S7 h => ?_)
    refine zr_aln C 0 dX7_pin_33 rfl rfl rfl ?_
    refine zg_X7_0 C zi_X7_pin_X7 zm_X7_pin_80 dX7_pin_34 rfl ?_
    refine zr_if_eq (tgt := 42) C dX7_pin_37 (by decide) rfl h (fun h => ?_) (fun h => ?_)
    · refine zr_aln C 0 dX7_pin_42 rfl rfl rfl ?_
      refine zg_X7_9 C zi_X7_pin_X7 zm_X7_pin_19 dX7_pin_43 rfl ?_
      refine zr_il C 2 dX7_pin_46 rfl rfl ?_
      refine zl_M4 C dX7_pin_48 rfl h (fun h => ?_)
      refine zz_jn1_W h (fun (v8 : Int32) => zz_ww X (0, 0) (zz_wM a k S7) 68 [(0, .ref (a 0)), (1, .int p1), (5, .int x2)] [.int v8]) ?_ ?_
      · intro v8 h
        refine zr_is C [1, 2, 3, 0] dX7_pin_68 rfl (by decide) (fun x11 => [(0, .ref (a 0)), (1, .int p1), (5, .int x2), (6, .int x11)]) h (fun _ => rfl) (fun x11 h => ?_)
        refine zr_aln C 0 dX7_pin_70 rfl rfl rfl ?_
        refine zg_X7_10 C zi_X7_pin_X7 zm_X7_pin_23 dX7_pin_71 rfl ?_
        refine zr_il C 2 dX7_pin_74 rfl rfl ?_
        refine zl_M5 C dX7_pin_76 rfl h (fun h => ?_)
        refine zz_jn1_W h (fun (u12 : Unit) => zz_ww X (0, 0) (zz_wM a k S7) 117 [] []) ?_ ?_
        · intro u12 h
          refine zr_ic (v := (0 : Int32)) C dX7_pin_117 (by decide) rfl ?_
          exact hret ((0 : Int32)) S7 118 _ (0, 0) (by decide) (by decide) dX7_pin_118 rfl h
        intro j13 hj14 h
        refine zr_if_ne (tgt := 117) C dX7_pin_77 (by decide) rfl h (fun h => ?_) (fun h => ?_)
        · refine zr_sub [] rfl ?_
          exact hj14 () h
        · refine zr_il C 3 dX7_pin_80 rfl rfl ?_
          refine zr_if_ne (tgt := 117) C dX7_pin_82 (by decide) rfl h (fun h => ?_) (fun h => ?_)
          · refine zr_sub [] rfl ?_
            exact hj14 () h
          · refine zr_aln C 0 dX7_pin_85 rfl rfl rfl ?_
            refine zg_X7_8 C zi_X7_pin_X7 zm_X7_pin_16 dX7_pin_86 rfl ?_
            refine zr_il C 2 dX7_pin_89 rfl rfl ?_
            refine zl_M3 C dX7_pin_91 rfl h (fun h => ?_)
            refine zr_ic (v := (-1 : Int32)) C dX7_pin_92 (by decide) rfl ?_
            refine zz_jn1_W h (fun (u15 : Unit) => zz_ww X (0, 0) (zz_wM a k S7) 107 [(0, .ref (a 0)), (1, .int p1), (5, .int x2)] []) ?_ ?_
            · intro u15 h
              refine zr_aln C 0 dX7_pin_107 rfl rfl rfl ?_
              refine zg_X7_6 C zi_X7_pin_X7 zm_X7_pin_7 dX7_pin_108 rfl ?_
              refine zr_iln C 1 dX7_pin_111 rfl rfl rfl ?_
              refine zl_M1 C dX7_pin_112 rfl h (fun h => ?_)
              refine zr_ic (v := (5 : Int32)) C dX7_pin_113 (by decide) rfl ?_
              refine zr_icmp_ne (tgt := 119) C dX7_pin_114 (by decide) rfl h (fun h => ?_) (fun h => ?_)
              · refine zr_aln C 0 dX7_pin_119 rfl rfl rfl ?_
                refine zr_iln C 1 dX7_pin_120 rfl rfl rfl ?_
                refine zr_cVv (wf := (zz_wM a k)) (st := []) C (fun l D u hu => zc_X7_loosen N l D k (a := a) S7 p1 u hu) gX7_pin_X7_loosen rfl zd_X7_loosen ⟨by decide, by decide⟩ ⟨by decide, by decide⟩ rfl ⟨0, 7, _, _, _, zk_M0, rfl⟩ (Nat.le_of_ble_eq_true rfl) rfl dX7_pin_121 rfl rfl h (fun S18 _ h => ?_)
                refine zr_aln C 0 dX7_pin_124 rfl rfl rfl ?_
                refine zg_X7_7 C zi_X7_pin_X7 zm_X7_pin_13 dX7_pin_125 rfl ?_
                refine zr_ic (v := (5 : Int32)) C dX7_pin_128 (by decide) rfl ?_
                refine zr_iln C 1 dX7_pin_129 rfl rfl rfl ?_
                refine zr_imul C dX7_pin_130 rfl ?_
                refine zr_aln C 0 dX7_pin_131 rfl rfl rfl ?_
                refine zg_X7_6 C zi_X7_pin_X7 zm_X7_pin_7 dX7_pin_132 rfl ?_
                refine zr_iln C 1 dX7_pin_135 rfl rfl rfl ?_
                refine zl_M1 C dX7_pin_136 rfl h (fun h => ?_)
                refine zr_iadd C dX7_pin_137 rfl ?_
                refine zr_il C 2 dX7_pin_138 rfl rfl ?_
                refine zs_M2 C dX7_pin_140 rfl h (fun S19 h => ?_)
                refine zr_aln C 0 dX7_pin_141 rfl rfl rfl ?_
                refine zg_X7_6 C zi_X7_pin_X7 zm_X7_pin_7 dX7_pin_142 rfl ?_
                refine zr_iln C 1 dX7_pin_145 rfl rfl rfl ?_
                refine zr_dup2 C dX7_pin_146 rfl rfl rfl ?_
                refine zl_M1 C dX7_pin_147 rfl h (fun h => ?_)
                refine zr_ic (v := (1 : Int32)) C dX7_pin_148 (by decide) rfl ?_
                refine zr_iadd C dX7_pin_149 rfl ?_
                refine zs_M1 C dX7_pin_150 rfl h (fun S20 h => ?_)
                refine zr_aln C 0 dX7_pin_151 rfl rfl rfl ?_
                refine zg_X7_8 C zi_X7_pin_X7 zm_X7_pin_16 dX7_pin_152 rfl ?_
                refine zr_il C 2 dX7_pin_155 rfl rfl ?_
                refine zr_iln C 1 dX7_pin_157 rfl rfl rfl ?_
                refine zs_M3 C dX7_pin_158 rfl h (fun S21 h => ?_)
                refine zr_aln C 0 dX7_pin_159 rfl rfl rfl ?_
                refine zg_X7_9 C zi_X7_pin_X7 zm_X7_pin_19 dX7_pin_160 rfl ?_
                refine zr_il C 2 dX7_pin_163 rfl rfl ?_
                refine zr_ic (v := (1 : Int32)) C dX7_pin_165 (by decide) rfl ?_
                refine zs_M4 C dX7_pin_166 rfl h (fun S22 h => ?_)
                refine zr_ic (v := (1 : Int32)) C dX7_pin_167 (by decide) rfl ?_
                exact hret ((1 : Int32)) S22 168 _ (0, 0) (by decide) (by decide) dX7_pin_168 rfl h
              · refine zr_sub [] rfl ?_
                exact hj14 () h
            intro j16 hj17 h
            refine zr_icmp_eq (tgt := 107) C dX7_pin_93 (by decide) rfl h (fun h => ?_) (fun h => ?_)
            · refine zr_sub [0, 1, 2] rfl ?_
              exact hj17 () h
            · refine zr_aln C 0 dX7_pin_96 rfl rfl rfl ?_
              refine zg_X7_8 C zi_X7_pin_X7 zm_X7_pin_16 dX7_pin_97 rfl ?_
              refine zr_il C 2 dX7_pin_100 rfl rfl ?_
              refine zl_M3 C dX7_pin_102 rfl h (fun h => ?_)
              refine zr_iln C 1 dX7_pin_103 rfl rfl rfl ?_
              refine zr_icmp_ne (tgt := 117) C dX7_pin_104 (by decide) rfl h (fun h => ?_) (fun h => ?_)
              · refine zr_sub [] rfl ?_
                exact hj14 () h
              · refine zr_sub [0, 1, 2] rfl ?_
                exact hj17 () h
      intro j9 hj10 h
      refine zz_jn1_W h (fun (u23 : Unit) => zz_ww X (0, 0) (zz_wM a k S7) 67 [(0, .ref (a 0)), (1, .int p1), (5, .int x2)] []) ?_ ?_
      · intro u23 h
        refine zr_ic (v := (0 : Int32)) C dX7_pin_67 (by decide) rfl ?_
        exact hj10 ((0 : Int32)) h
      intro j24 hj25 h
      refine zr_if_eq (tgt := 67) C dX7_pin_49 (by decide) rfl h (fun h => ?_) (fun h => ?_)
      · exact hj25 () h
      · refine zr_aln C 0 dX7_pin_52 rfl rfl rfl ?_
        refine zg_X7_8 C zi_X7_pin_X7 zm_X7_pin_16 dX7_pin_53 rfl ?_
        refine zr_il C 2 dX7_pin_56 rfl rfl ?_
        refine zl_M3 C dX7_pin_58 rfl h (fun h => ?_)
        refine zr_iln C 1 dX7_pin_59 rfl rfl rfl ?_
        refine zr_icmp_ne (tgt := 67) C dX7_pin_60 (by decide) rfl h (fun h => ?_) (fun h => ?_)
        · exact hj25 () h
        · refine zr_ic (v := (1 : Int32)) C dX7_pin_63 (by decide) rfl ?_
          refine zr_goto (tgt := 68) C dX7_pin_64 (by decide) ?_
          exact hj10 ((1 : Int32)) h
    · refine zr_ic (v := (0 : Int32)) C dX7_pin_40 (by decide) rfl ?_
      exact hret ((0 : Int32)) S7 41 _ (0, 0) (by decide) (by decide) dX7_pin_41 rfl h
  intro j5 hj6 h
  refine zz_jn1_W h (fun (u26 : Unit) => zz_ww X (0, 0) (zz_wM a k S) 29 [(0, .ref (a 0)), (1, .int p1), (5, .int x2)] [.ref (a 0)]) ?_ ?_
  · intro u26 h
    refine zr_ic (v := (1 : Int32)) C dX7_pin_29 (by decide) rfl ?_
    exact hj6 ((1 : Int32)) h
  intro j27 hj28 h
  refine zr_if_eq (tgt := 29) C dX7_pin_16 (by decide) rfl h (fun h => ?_) (fun h => ?_)
  · refine zr_sub [0, 1, 5] rfl ?_
    exact hj28 () h
  · refine zr_il C 5 dX7_pin_19 rfl rfl ?_
    refine zr_ic (v := (-1 : Int32)) C dX7_pin_21 (by decide) rfl ?_
    refine zr_icmp_eq (tgt := 29) C dX7_pin_22 (by decide) rfl h (fun h => ?_) (fun h => ?_)
    · refine zr_sub [0, 1, 5] rfl ?_
      exact hj28 () h
    · refine zr_ic (v := (0 : Int32)) C dX7_pin_25 (by decide) rfl ?_
      refine zr_goto (tgt := 30) C dX7_pin_26 (by decide) ?_
      refine zr_sub [0, 1, 5] rfl ?_
      exact hj6 ((0 : Int32)) h

def zf_X7_isCost (N : Nat) (p0 : Int32) : Option Int32 := zz_jn1 (fun (v1 : Int32) => zz_gd (zz_bl v1) (some (v1))) (fun j2 => zz_jn1 (fun (u4 : Unit) => j2 ((0 : Int32))) (fun j5 => if p0 < 0 then (j5 ()) else (if ((50 : Int32)) < p0 then (j5 ()) else (j2 ((1 : Int32))))))
theorem zd_X7_isCost : yX7_isCost.cls ≠ "java/lang/invoke/MethodHandle" ∧ yX7_isCost.cls ≠ "java/lang/invoke/VarHandle" ∧ (parseMethodDescriptor yX7_isCost.desc).map (fun d => d.parameters.length) = some 1 := by decide +kernel
set_option maxHeartbeats 4000000 in
set_option maxRecDepth 100000 in
theorem zc_X7_isCost (N : Nat) (l : Launch) (D : va_G) (k : Nat → ClassId) {σ : Type} {wf : σ → va_W} (S : σ) (p0 : Int32)  (v : Int32) (h : zf_X7_isCost N p0 = some v) : zz_MI l yX7_isCost wsX7_isCost ({ frames := 0, cells := 0, slots := 0, locals := 0 } : Room) D k wf [.int p0] S (v, S) := by
  refine zz_metI (cc := cX7_isCost) (nL := 1) (ty := .boolean) (by decide) rfl (Nat.le_of_ble_eq_true rfl) ?_
  intro X C hret
  have C : zz_ok X cX7_isCost RX7 wsX7_isCost k 1 ({ frames := 0, cells := 0, slots := 0, locals := 0 } : Room) := C
  unfold zf_X7_isCost at h
  show zz_ww X (0, 0) (wf S) 0 [(0, .int p0)] []
  refine zr_iln C 0 dX7_isCost_0 rfl rfl rfl ?_
  refine zz_jn1_W h (fun (v1 : Int32) => zz_ww X (0, 0) (wf S) 15 [] [.int v1]) ?_ ?_
  · intro v1 h
    obtain ⟨hb, h⟩ := zz_gd_some h
    exact hret v1 S 15 _ (0, 0) (by decide) (by decide) dX7_isCost_15 (zz_bl_nar hb) (zz_ro h)
  intro j2 hj3 h
  refine zz_jn1_W h (fun (u4 : Unit) => zz_ww X (0, 0) (wf S) 14 [] []) ?_ ?_
  · intro u4 h
    refine zr_ic (v := (0 : Int32)) C dX7_isCost_14 (by decide) rfl ?_
    exact hj3 ((0 : Int32)) h
  intro j5 hj6 h
  refine zr_if_lt (tgt := 14) C dX7_isCost_1 (by decide) rfl h (fun h => ?_) (fun h => ?_)
  · refine zr_sub [] rfl ?_
    exact hj6 () h
  · refine zr_iln C 0 dX7_isCost_4 rfl rfl rfl ?_
    refine zr_bi (v := (50 : Int32)) C dX7_isCost_5 (by decide) rfl ?_
    refine zr_icmp_gt (tgt := 14) C dX7_isCost_7 (by decide) rfl h (fun h => ?_) (fun h => ?_)
    · refine zr_sub [] rfl ?_
      exact hj6 () h
    · refine zr_ic (v := (1 : Int32)) C dX7_isCost_10 (by decide) rfl ?_
      refine zr_goto (tgt := 15) C dX7_isCost_11 (by decide) ?_
      refine zr_sub [] rfl ?_
      exact hj3 ((1 : Int32)) h


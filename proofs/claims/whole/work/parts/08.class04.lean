def zf_X6_isFreeBend (N : Nat) (z : Nat) (S : zz_St) (p1 : Int32) (p2 : Int32) (p3 : Int32) (p4 : Int32) : Option Int32 := zz_b1 (zf_X1_neighbour N z S p1 p3) (fun x1 => zz_let x1 (fun x2 => zz_b1 (zf_X1_neighbour N z S p2 p3) (fun x3 => zz_let x3 (fun x4 => zz_jn1 (fun (u5 : Unit) => some ((1 : Int32))) (fun j6 => if x2 = ((-1 : Int32)) then (j6 ()) else (if x4 = ((-1 : Int32)) then (j6 ()) else (zz_gd (zz_in x2 z) (if (zz_ga S 10 x2.toNatClampNeg) = p4 then (zz_gd (zz_in x4 z) (zz_jn1 (fun (v8 : Int32) => zz_gd (zz_bl v8) (some (v8))) (fun j9 => zz_jn1 (fun (u11 : Unit) => j9 ((0 : Int32))) (fun j12 => if (zz_ga S 8 x4.toNatClampNeg) = 0 then (zz_b1 (zf_X1_heldByOther N z S x4 p4) (fun x14 => if x14 = 0 then (j9 ((1 : Int32))) else (j12 ()))) else (j12 ()))))) else (j6 ())))))))))
theorem zi_X6_isFreeBend_X6 : ∀ w ∈ wsX60, w ∈ wsX6_isFreeBend := by decide +kernel
theorem zm_X6_isFreeBend_12 : Cond.fieldLink RX6 12 "GridRipUp" "grid" "LGridRipUp$Grid;" ∈ wsX6_isFreeBend := by decide +kernel
theorem zi_X6_isFreeBend_X1 : ∀ w ∈ wsX10, w ∈ wsX6_isFreeBend := by decide +kernel
theorem zm_X6_isFreeBend_76 : Cond.fieldLink RX6 76 "GridRipUp$Grid" "holder" "[I" ∈ wsX6_isFreeBend := by decide +kernel
theorem zm_X6_isFreeBend_72 : Cond.fieldLink RX6 72 "GridRipUp$Grid" "barred" "[Z" ∈ wsX6_isFreeBend := by decide +kernel
theorem zd_X6_isFreeBend : yX6_isFreeBend.cls = RX6 ∧ yX6_isFreeBend.cls ≠ "java/lang/invoke/MethodHandle" ∧ yX6_isFreeBend.cls ≠ "java/lang/invoke/VarHandle" ∧ (parseMethodDescriptor yX6_isFreeBend.desc).map (fun d => d.parameters.length) = some 4 := by decide +kernel
set_option maxHeartbeats 4000000 in
set_option maxRecDepth 100000 in
theorem zc_X6_isFreeBend (N : Nat) (l : Launch) (D : va_G) (k : Nat → ClassId) {a : Nat → Nat} {z : Nat} (S : zz_St) (p1 : Int32) (p2 : Int32) (p3 : Int32) (p4 : Int32)  (v : Int32) (h : zf_X6_isFreeBend N z S p1 p2 p3 p4 = some v) : zz_MI l yX6_isFreeBend wsX6_isFreeBend ({ frames := 1, cells := 0, slots := 0, locals := 22 } : Room) D k (zz_wC a k z) [.ref (a 0), .int p1, .int p2, .int p3, .int p4] S (v, S) := by
  refine zz_metI (cc := cX6_isFreeBend) (nL := 7) (ty := .boolean) (by decide) rfl (Nat.le_of_ble_eq_true rfl) ?_
  intro X C hret
  have C : zz_ok X cX6_isFreeBend RX6 wsX6_isFreeBend k 7 ({ frames := 1, cells := 0, slots := 0, locals := 22 } : Room) := C
  unfold zf_X6_isFreeBend at h
  show zz_ww X (0, 0) (zz_wC a k z S) 0 [(0, .ref (a 0)), (1, .int p1), (2, .int p2), (3, .int p3), (4, .int p4)] []
  refine zr_aln C 0 dX6_isFreeBend_0 rfl rfl rfl ?_
  refine zg_X6_0 C zi_X6_isFreeBend_X6 zm_X6_isFreeBend_12 dX6_isFreeBend_1 rfl ?_
  refine zr_iln C 1 dX6_isFreeBend_4 rfl rfl rfl ?_
  refine zr_iln C 3 dX6_isFreeBend_5 rfl rfl rfl ?_
  refine zr_cVir (wf := (zz_wC a k z)) (st := []) C (fun l D v hv => zc_X1_neighbour N l D k (a := a) (z := z) S p1 p3 v hv) gX6_isFreeBend_X1_neighbour rfl zd_X1_neighbour ⟨by decide, by decide⟩ ⟨by decide, by decide⟩ rfl ⟨1, 1, _, _, _, zk_C1, rfl⟩ (Nat.le_of_ble_eq_true rfl) rfl dX6_isFreeBend_6 rfl rfl h (fun x1 _ h => ?_)
  refine zr_is C [1, 2, 3, 4, 5, 0] dX6_isFreeBend_9 rfl (by decide) (fun x2 => [(0, .ref (a 0)), (1, .int p1), (2, .int p2), (3, .int p3), (4, .int p4), (5, .int x2)]) h (fun _ => rfl) (fun x2 h => ?_)
  refine zr_aln C 0 dX6_isFreeBend_11 rfl rfl rfl ?_
  refine zg_X6_0 C zi_X6_isFreeBend_X6 zm_X6_isFreeBend_12 dX6_isFreeBend_12 rfl ?_
  refine zr_iln C 2 dX6_isFreeBend_15 rfl rfl rfl ?_
  refine zr_iln C 3 dX6_isFreeBend_16 rfl rfl rfl ?_
  refine zr_cVir (wf := (zz_wC a k z)) (st := []) C (fun l D v hv => zc_X1_neighbour N l D k (a := a) (z := z) S p2 p3 v hv) gX6_isFreeBend_X1_neighbour rfl zd_X1_neighbour ⟨by decide, by decide⟩ ⟨by decide, by decide⟩ rfl ⟨1, 1, _, _, _, zk_C1, rfl⟩ (Nat.le_of_ble_eq_true rfl) rfl dX6_isFreeBend_17 rfl rfl h (fun x3 _ h => ?_)
  refine zr_is C [1, 2, 3, 4, 5, 6, 0] dX6_isFreeBend_20 rfl (by decide) (fun x4 => [(0, .ref (a 0)), (1, .int p1), (2, .int p2), (3, .int p3), (4, .int p4), (5, .int x2), (6, .int x4)]) h (fun _ => rfl) (fun x4 h => ?_)
  refine zr_il C 5 dX6_isFreeBend_22 rfl rfl ?_
  refine zr_ic (v := (-1 : Int32)) C dX6_isFreeBend_24 (by decide) rfl ?_
  refine zz_jn1_W h (fun (u5 : Unit) => zz_ww X (0, 0) (zz_wC a k z S) 49 [] []) ?_ ?_
  · intro u5 h
    refine zr_ic (v := (1 : Int32)) C dX6_isFreeBend_49 (by decide) rfl ?_
    exact hret ((1 : Int32)) S 50 _ (0, 0) (by decide) (by decide) dX6_isFreeBend_50 rfl (zz_ro h)
  intro j6 hj7 h
  refine zr_icmp_eq (tgt := 49) C dX6_isFreeBend_25 (by decide) rfl h (fun h => ?_) (fun h => ?_)
  · refine zr_sub [] rfl ?_
    exact hj7 () h
  · refine zr_il C 6 dX6_isFreeBend_28 rfl rfl ?_
    refine zr_ic (v := (-1 : Int32)) C dX6_isFreeBend_30 (by decide) rfl ?_
    refine zr_icmp_eq (tgt := 49) C dX6_isFreeBend_31 (by decide) rfl h (fun h => ?_) (fun h => ?_)
    · refine zr_sub [] rfl ?_
      exact hj7 () h
    · refine zr_aln C 0 dX6_isFreeBend_34 rfl rfl rfl ?_
      refine zg_X6_0 C zi_X6_isFreeBend_X6 zm_X6_isFreeBend_12 dX6_isFreeBend_35 rfl ?_
      refine zg_X1_7 C zi_X6_isFreeBend_X1 zm_X6_isFreeBend_76 dX6_isFreeBend_38 rfl ?_
      refine zr_il C 5 dX6_isFreeBend_41 rfl rfl ?_
      refine zl_C10 C dX6_isFreeBend_43 rfl h (fun h => ?_)
      refine zr_il C 4 dX6_isFreeBend_44 rfl rfl ?_
      refine zr_icmp_eq (tgt := 51) C dX6_isFreeBend_46 (by decide) rfl h (fun h => ?_) (fun h => ?_)
      · refine zr_aln C 0 dX6_isFreeBend_51 rfl rfl rfl ?_
        refine zg_X6_0 C zi_X6_isFreeBend_X6 zm_X6_isFreeBend_12 dX6_isFreeBend_52 rfl ?_
        refine zg_X1_5 C zi_X6_isFreeBend_X1 zm_X6_isFreeBend_72 dX6_isFreeBend_55 rfl ?_
        refine zr_il C 6 dX6_isFreeBend_58 rfl rfl ?_
        refine zl_C8 C dX6_isFreeBend_60 rfl h (fun h => ?_)
        refine zz_jn1_W h (fun (v8 : Int32) => zz_ww X (0, 0) (zz_wC a k z S) 83 [] [.int v8]) ?_ ?_
        · intro v8 h
          obtain ⟨hb, h⟩ := zz_gd_some h
          exact hret v8 S 83 _ (0, 0) (by decide) (by decide) dX6_isFreeBend_83 (zz_bl_nar hb) (zz_ro h)
        intro j9 hj10 h
        refine zz_jn1_W h (fun (u11 : Unit) => zz_ww X (0, 0) (zz_wC a k z S) 82 [] []) ?_ ?_
        · intro u11 h
          refine zr_ic (v := (0 : Int32)) C dX6_isFreeBend_82 (by decide) rfl ?_
          exact hj10 ((0 : Int32)) h
        intro j12 hj13 h
        refine zr_if_ne (tgt := 82) C dX6_isFreeBend_61 (by decide) rfl h (fun h => ?_) (fun h => ?_)
        · refine zr_sub [] rfl ?_
          exact hj13 () h
        · refine zr_aln C 0 dX6_isFreeBend_64 rfl rfl rfl ?_
          refine zg_X6_0 C zi_X6_isFreeBend_X6 zm_X6_isFreeBend_12 dX6_isFreeBend_65 rfl ?_
          refine zr_il C 6 dX6_isFreeBend_68 rfl rfl ?_
          refine zr_il C 4 dX6_isFreeBend_70 rfl rfl ?_
          refine zr_cVir (wf := (zz_wC a k z)) (st := []) C (fun l D v hv => zc_X1_heldByOther N l D k (a := a) (z := z) S x4 p4 v hv) gX6_isFreeBend_X1_heldByOther rfl zd_X1_heldByOther ⟨by decide, by decide⟩ ⟨by decide, by decide⟩ rfl ⟨1, 1, _, _, _, zk_C1, rfl⟩ (Nat.le_of_ble_eq_true rfl) rfl dX6_isFreeBend_72 rfl rfl h (fun x14 _ h => ?_)
          refine zr_if_ne (tgt := 82) C dX6_isFreeBend_75 (by decide) rfl h (fun h => ?_) (fun h => ?_)
          · refine zr_sub [] rfl ?_
            exact hj13 () h
          · refine zr_ic (v := (1 : Int32)) C dX6_isFreeBend_78 (by decide) rfl ?_
            refine zr_goto (tgt := 83) C dX6_isFreeBend_79 (by decide) ?_
            refine zr_sub [] rfl ?_
            exact hj10 ((1 : Int32)) h
      · refine zr_sub [] rfl ?_
        exact hj7 () h

def zf_X6_hasFreeBends (N : Nat) (z : Nat) (S : zz_St) (p1 : Int32) (p2 : Int32) : Option Int32 := zz_let ((2 : Int32)) (fun x1 => zz_fix1 (fun rc3 (v2 : Int32) => if ((3 : Int32)) < v2 then (some ((1 : Int32))) else (zz_b1 (zf_X1_neighbour N z S p1 v2) (fun x5 => zz_let x5 (fun x6 => zz_jn1 (fun (u7 : Unit) => zz_let (v2 + (1 : Int32)) (fun x10 => rc3 x10)) (fun j8 => if x6 = ((-1 : Int32)) then (j8 ()) else (zz_gd (zz_in x6 z) (if (zz_ga S 10 x6.toNatClampNeg) = p2 then (zz_b1 (zf_X6_isFreeBend N z S p1 x6 ((1 : Int32)) p2) (fun x11 => zz_jn1 (fun (u12 : Unit) => some ((0 : Int32))) (fun j13 => if x11 = 0 then (j13 ()) else (zz_b1 (zf_X6_isFreeBend N z S p1 x6 ((4 : Int32)) p2) (fun x15 => if x15 = 0 then (j13 ()) else (j8 ())))))) else (j8 ())))))))) N x1)
theorem zi_X6_hasFreeBends_X6 : ∀ w ∈ wsX60, w ∈ wsX6_hasFreeBends := by decide +kernel
theorem zm_X6_hasFreeBends_12 : Cond.fieldLink RX6 12 "GridRipUp" "grid" "LGridRipUp$Grid;" ∈ wsX6_hasFreeBends := by decide +kernel
theorem zi_X6_hasFreeBends_X1 : ∀ w ∈ wsX10, w ∈ wsX6_hasFreeBends := by decide +kernel
theorem zm_X6_hasFreeBends_76 : Cond.fieldLink RX6 76 "GridRipUp$Grid" "holder" "[I" ∈ wsX6_hasFreeBends := by decide +kernel
theorem zd_X6_hasFreeBends : yX6_hasFreeBends.cls = RX6 ∧ yX6_hasFreeBends.cls ≠ "java/lang/invoke/MethodHandle" ∧ yX6_hasFreeBends.cls ≠ "java/lang/invoke/VarHandle" ∧ (parseMethodDescriptor yX6_hasFreeBends.desc).map (fun d => d.parameters.length) = some 2 := by decide +kernel
set_option maxHeartbeats 4000000 in
set_option maxRecDepth 100000 in
theorem zc_X6_hasFreeBends (N : Nat) (l : Launch) (D : va_G) (k : Nat → ClassId) {a : Nat → Nat} {z : Nat} (S : zz_St) (p1 : Int32) (p2 : Int32)  (v : Int32) (h : zf_X6_hasFreeBends N z S p1 p2 = some v) : zz_MI l yX6_hasFreeBends wsX6_hasFreeBends ({ frames := 2, cells := 0, slots := 0, locals := 48 } : Room) D k (zz_wC a k z) [.ref (a 0), .int p1, .int p2] S (v, S) := by
  refine zz_metI (cc := cX6_hasFreeBends) (nL := 5) (ty := .boolean) (by decide) rfl (Nat.le_of_ble_eq_true rfl) ?_
  intro X C hret
  have C : zz_ok X cX6_hasFreeBends RX6 wsX6_hasFreeBends k 5 ({ frames := 2, cells := 0, slots := 0, locals := 48 } : Room) := C
  unfold zf_X6_hasFreeBends at h
  show zz_ww X (0, 0) (zz_wC a k z S) 0 [(0, .ref (a 0)), (1, .int p1), (2, .int p2)] []
  refine zr_ic (v := (2 : Int32)) C dX6_hasFreeBends_0 (by decide) rfl ?_
  refine zr_isn C [1, 2, 3, 0] dX6_hasFreeBends_1 rfl rfl (by decide) (fun x1 => [(0, .ref (a 0)), (1, .int p1), (2, .int p2), (3, .int x1)]) h (fun _ => rfl) (fun x1 h => ?_)
  refine zz_fix1_W (fun (v2 : Int32) => zz_ww X (0, 0) (zz_wC a k z S) 2 [(0, .ref (a 0)), (1, .int p1), (2, .int p2), (3, .int v2)] []) ?_ N x1 h
  intro rc3 hr4 v2 h
  refine zr_iln C 3 dX6_hasFreeBends_2 rfl rfl rfl ?_
  refine zr_ic (v := (3 : Int32)) C dX6_hasFreeBends_3 (by decide) rfl ?_
  refine zr_icmp_gt (tgt := 73) C dX6_hasFreeBends_4 (by decide) rfl h (fun h => ?_) (fun h => ?_)
  · refine zr_ic (v := (1 : Int32)) C dX6_hasFreeBends_73 (by decide) rfl ?_
    exact hret ((1 : Int32)) S 74 _ (0, 0) (by decide) (by decide) dX6_hasFreeBends_74 rfl (zz_ro h)
  · refine zr_aln C 0 dX6_hasFreeBends_7 rfl rfl rfl ?_
    refine zg_X6_0 C zi_X6_hasFreeBends_X6 zm_X6_hasFreeBends_12 dX6_hasFreeBends_8 rfl ?_
    refine zr_iln C 1 dX6_hasFreeBends_11 rfl rfl rfl ?_
    refine zr_iln C 3 dX6_hasFreeBends_12 rfl rfl rfl ?_
    refine zr_cVir (wf := (zz_wC a k z)) (st := []) C (fun l D v hv => zc_X1_neighbour N l D k (a := a) (z := z) S p1 v2 v hv) gX6_hasFreeBends_X1_neighbour rfl zd_X1_neighbour ⟨by decide, by decide⟩ ⟨by decide, by decide⟩ rfl ⟨1, 1, _, _, _, zk_C1, rfl⟩ (Nat.le_of_ble_eq_true rfl) rfl dX6_hasFreeBends_13 rfl rfl h (fun x5 _ h => ?_)
    refine zr_is C [1, 2, 3, 4, 0] dX6_hasFreeBends_16 rfl (by decide) (fun x6 => [(0, .ref (a 0)), (1, .int p1), (2, .int p2), (3, .int v2), (4, .int x6)]) h (fun _ => rfl) (fun x6 h => ?_)
    refine zr_il C 4 dX6_hasFreeBends_18 rfl rfl ?_
    refine zr_ic (v := (-1 : Int32)) C dX6_hasFreeBends_20 (by decide) rfl ?_
    refine zz_jn1_W h (fun (u7 : Unit) => zz_ww X (0, 0) (zz_wC a k z S) 67 [(0, .ref (a 0)), (1, .int p1), (2, .int p2), (3, .int v2)] []) ?_ ?_
    · intro u7 h
      refine zr_iinc (v := (1 : Int32)) C 3 [1, 2, 3, 0] dX6_hasFreeBends_67 rfl (by decide) rfl (by decide) (fun x10 => [(0, .ref (a 0)), (1, .int p1), (2, .int p2), (3, .int x10)]) h (fun _ => rfl) (fun x10 h => ?_)
      refine zr_goto (tgt := 2) C dX6_hasFreeBends_70 (by decide) ?_
      exact hr4 x10 h
    intro j8 hj9 h
    refine zr_icmp_eq (tgt := 67) C dX6_hasFreeBends_21 (by decide) rfl h (fun h => ?_) (fun h => ?_)
    · refine zr_sub [0, 1, 2, 3] rfl ?_
      exact hj9 () h
    · refine zr_aln C 0 dX6_hasFreeBends_24 rfl rfl rfl ?_
      refine zg_X6_0 C zi_X6_hasFreeBends_X6 zm_X6_hasFreeBends_12 dX6_hasFreeBends_25 rfl ?_
      refine zg_X1_7 C zi_X6_hasFreeBends_X1 zm_X6_hasFreeBends_76 dX6_hasFreeBends_28 rfl ?_
      refine zr_il C 4 dX6_hasFreeBends_31 rfl rfl ?_
      refine zl_C10 C dX6_hasFreeBends_33 rfl h (fun h => ?_)
      refine zr_iln C 2 dX6_hasFreeBends_34 rfl rfl rfl ?_
      refine zr_icmp_eq (tgt := 41) C dX6_hasFreeBends_35 (by decide) rfl h (fun h => ?_) (fun h => ?_)
      · refine zr_aln C 0 dX6_hasFreeBends_41 rfl rfl rfl ?_
        refine zr_iln C 1 dX6_hasFreeBends_42 rfl rfl rfl ?_
        refine zr_il C 4 dX6_hasFreeBends_43 rfl rfl ?_
        refine zr_ic (v := (1 : Int32)) C dX6_hasFreeBends_45 (by decide) rfl ?_
        refine zr_iln C 2 dX6_hasFreeBends_46 rfl rfl rfl ?_
        refine zr_cVir (wf := (zz_wC a k z)) (st := []) C (fun l D v hv => zc_X6_isFreeBend N l D k (a := a) (z := z) S p1 x6 ((1 : Int32)) p2 v hv) gX6_hasFreeBends_X6_isFreeBend rfl zd_X6_isFreeBend ⟨by decide, by decide⟩ ⟨by decide, by decide⟩ rfl ⟨0, 6, _, _, _, zk_C0, rfl⟩ (Nat.le_of_ble_eq_true rfl) rfl dX6_hasFreeBends_47 rfl rfl h (fun x11 _ h => ?_)
        refine zz_jn1_W h (fun (u12 : Unit) => zz_ww X (0, 0) (zz_wC a k z S) 65 [] []) ?_ ?_
        · intro u12 h
          refine zr_ic (v := (0 : Int32)) C dX6_hasFreeBends_65 (by decide) rfl ?_
          exact hret ((0 : Int32)) S 66 _ (0, 0) (by decide) (by decide) dX6_hasFreeBends_66 rfl (zz_ro h)
        intro j13 hj14 h
        refine zr_if_eq (tgt := 65) C dX6_hasFreeBends_50 (by decide) rfl h (fun h => ?_) (fun h => ?_)
        · refine zr_sub [] rfl ?_
          exact hj14 () h
        · refine zr_aln C 0 dX6_hasFreeBends_53 rfl rfl rfl ?_
          refine zr_iln C 1 dX6_hasFreeBends_54 rfl rfl rfl ?_
          refine zr_il C 4 dX6_hasFreeBends_55 rfl rfl ?_
          refine zr_ic (v := (4 : Int32)) C dX6_hasFreeBends_57 (by decide) rfl ?_
          refine zr_iln C 2 dX6_hasFreeBends_58 rfl rfl rfl ?_
          refine zr_cVir (wf := (zz_wC a k z)) (st := []) C (fun l D v hv => zc_X6_isFreeBend N l D k (a := a) (z := z) S p1 x6 ((4 : Int32)) p2 v hv) gX6_hasFreeBends_X6_isFreeBend rfl zd_X6_isFreeBend ⟨by decide, by decide⟩ ⟨by decide, by decide⟩ rfl ⟨0, 6, _, _, _, zk_C0, rfl⟩ (Nat.le_of_ble_eq_true rfl) rfl dX6_hasFreeBends_59 rfl rfl h (fun x15 _ h => ?_)
          refine zr_if_ne (tgt := 67) C dX6_hasFreeBends_62 (by decide) rfl h (fun h => ?_) (fun h => ?_)
          · refine zr_sub [0, 1, 2, 3] rfl ?_
            exact hj9 () h
          · refine zr_sub [] rfl ?_
            exact hj14 () h
      · refine zr_goto (tgt := 67) C dX6_hasFreeBends_38 (by decide) ?_
        refine zr_sub [0, 1, 2, 3] rfl ?_
        exact hj9 () h

def zf_J6_bitCount_0f7a4 (N : Nat) (p0 : Int32) : Option Int32 := zz_let (p0 - (((p0.toUInt32 >>> (((1 : Int32)).toUInt32 &&& Int32.toUInt32 31)).toInt32) &&& ((1431655765 : Int32)))) (fun x1 => zz_let ((x1 &&& ((858993459 : Int32))) + (((x1.toUInt32 >>> (((2 : Int32)).toUInt32 &&& Int32.toUInt32 31)).toInt32) &&& ((858993459 : Int32)))) (fun x2 => zz_let ((x2 + ((x2.toUInt32 >>> (((4 : Int32)).toUInt32 &&& Int32.toUInt32 31)).toInt32)) &&& ((252645135 : Int32))) (fun x3 => zz_let (x3 + ((x3.toUInt32 >>> (((8 : Int32)).toUInt32 &&& Int32.toUInt32 31)).toInt32)) (fun x4 => zz_let (x4 + ((x4.toUInt32 >>> (((16 : Int32)).toUInt32 &&& Int32.toUInt32 31)).toInt32)) (fun x5 => some (x5 &&& ((63 : Int32))))))))
theorem zm_J6_bitCount_0f7a4_c265 : Jvm.Cond.constant RJ6 265 (1431655765) ∈ wsJ6_bitCount_0f7a4 := by decide +kernel
theorem zm_J6_bitCount_0f7a4_c266 : Jvm.Cond.constant RJ6 266 (858993459) ∈ wsJ6_bitCount_0f7a4 := by decide +kernel
theorem zm_J6_bitCount_0f7a4_c267 : Jvm.Cond.constant RJ6 267 (252645135) ∈ wsJ6_bitCount_0f7a4 := by decide +kernel
theorem zd_J6_bitCount_0f7a4 : yJ6_bitCount_0f7a4.cls ≠ "java/lang/invoke/MethodHandle" ∧ yJ6_bitCount_0f7a4.cls ≠ "java/lang/invoke/VarHandle" ∧ (parseMethodDescriptor yJ6_bitCount_0f7a4.desc).map (fun d => d.parameters.length) = some 1 := by decide +kernel
set_option maxHeartbeats 4000000 in
set_option maxRecDepth 100000 in
theorem zc_J6_bitCount_0f7a4 (N : Nat) (l : Launch) (D : va_G) (k : Nat → ClassId) {σ : Type} {wf : σ → va_W} (S : σ) (p0 : Int32)  (v : Int32) (h : zf_J6_bitCount_0f7a4 N p0 = some v) : zz_MI l yJ6_bitCount_0f7a4 wsJ6_bitCount_0f7a4 ({ frames := 0, cells := 0, slots := 0, locals := 0 } : Room) D k wf [.int p0] S (v, S) := by
  refine zz_metI (cc := cJ6_bitCount_0f7a4) (nL := 1) (ty := .int) (by decide) rfl (Nat.le_of_ble_eq_true rfl) ?_
  intro X C hret
  have C : zz_ok X cJ6_bitCount_0f7a4 RJ6 wsJ6_bitCount_0f7a4 k 1 ({ frames := 0, cells := 0, slots := 0, locals := 0 } : Room) := C
  unfold zf_J6_bitCount_0f7a4 at h
  show zz_ww X (0, 0) (wf S) 0 [(0, .int p0)] []
  refine zr_iln C 0 dJ6_bitCount_0f7a4_0 rfl rfl rfl ?_
  refine zr_iln C 0 dJ6_bitCount_0f7a4_1 rfl rfl rfl ?_
  refine zr_ic (v := (1 : Int32)) C dJ6_bitCount_0f7a4_2 (by decide) rfl ?_
  refine zr_iushr C dJ6_bitCount_0f7a4_3 rfl ?_
  refine zr_ldcw (v := (1431655765 : Int32)) C dJ6_bitCount_0f7a4_4 zm_J6_bitCount_0f7a4_c265 rfl ?_
  refine zr_iand C dJ6_bitCount_0f7a4_7 rfl ?_
  refine zr_isub C dJ6_bitCount_0f7a4_8 rfl ?_
  refine zr_isn C [0] dJ6_bitCount_0f7a4_9 rfl rfl (by decide) (fun x1 => [(0, .int x1)]) h (fun _ => rfl) (fun x1 h => ?_)
  refine zr_iln C 0 dJ6_bitCount_0f7a4_10 rfl rfl rfl ?_
  refine zr_ldcw (v := (858993459 : Int32)) C dJ6_bitCount_0f7a4_11 zm_J6_bitCount_0f7a4_c266 rfl ?_
  refine zr_iand C dJ6_bitCount_0f7a4_14 rfl ?_
  refine zr_iln C 0 dJ6_bitCount_0f7a4_15 rfl rfl rfl ?_
  refine zr_ic (v := (2 : Int32)) C dJ6_bitCount_0f7a4_16 (by decide) rfl ?_
  refine zr_iushr C dJ6_bitCount_0f7a4_17 rfl ?_
  refine zr_ldcw (v := (858993459 : Int32)) C dJ6_bitCount_0f7a4_18 zm_J6_bitCount_0f7a4_c266 rfl ?_
  refine zr_iand C dJ6_bitCount_0f7a4_21 rfl ?_
  refine zr_iadd C dJ6_bitCount_0f7a4_22 rfl ?_
  refine zr_isn C [0] dJ6_bitCount_0f7a4_23 rfl rfl (by decide) (fun x2 => [(0, .int x2)]) h (fun _ => rfl) (fun x2 h => ?_)
  refine zr_iln C 0 dJ6_bitCount_0f7a4_24 rfl rfl rfl ?_
  refine zr_iln C 0 dJ6_bitCount_0f7a4_25 rfl rfl rfl ?_
  refine zr_ic (v := (4 : Int32)) C dJ6_bitCount_0f7a4_26 (by decide) rfl ?_
  refine zr_iushr C dJ6_bitCount_0f7a4_27 rfl ?_
  refine zr_iadd C dJ6_bitCount_0f7a4_28 rfl ?_
  refine zr_ldcw (v := (252645135 : Int32)) C dJ6_bitCount_0f7a4_29 zm_J6_bitCount_0f7a4_c267 rfl ?_
  refine zr_iand C dJ6_bitCount_0f7a4_32 rfl ?_
  refine zr_isn C [0] dJ6_bitCount_0f7a4_33 rfl rfl (by decide) (fun x3 => [(0, .int x3)]) h (fun _ => rfl) (fun x3 h => ?_)
  refine zr_iln C 0 dJ6_bitCount_0f7a4_34 rfl rfl rfl ?_
  refine zr_iln C 0 dJ6_bitCount_0f7a4_35 rfl rfl rfl ?_
  refine zr_bi (v := (8 : Int32)) C dJ6_bitCount_0f7a4_36 (by decide) rfl ?_
  refine zr_iushr C dJ6_bitCount_0f7a4_38 rfl ?_
  refine zr_iadd C dJ6_bitCount_0f7a4_39 rfl ?_
  refine zr_isn C [0] dJ6_bitCount_0f7a4_40 rfl rfl (by decide) (fun x4 => [(0, .int x4)]) h (fun _ => rfl) (fun x4 h => ?_)
  refine zr_iln C 0 dJ6_bitCount_0f7a4_41 rfl rfl rfl ?_
  refine zr_iln C 0 dJ6_bitCount_0f7a4_42 rfl rfl rfl ?_
  refine zr_bi (v := (16 : Int32)) C dJ6_bitCount_0f7a4_43 (by decide) rfl ?_
  refine zr_iushr C dJ6_bitCount_0f7a4_45 rfl ?_
  refine zr_iadd C dJ6_bitCount_0f7a4_46 rfl ?_
  refine zr_isn C [0] dJ6_bitCount_0f7a4_47 rfl rfl (by decide) (fun x5 => [(0, .int x5)]) h (fun _ => rfl) (fun x5 h => ?_)
  refine zr_iln C 0 dJ6_bitCount_0f7a4_48 rfl rfl rfl ?_
  refine zr_bi (v := (63 : Int32)) C dJ6_bitCount_0f7a4_49 (by decide) rfl ?_
  refine zr_iand C dJ6_bitCount_0f7a4_51 rfl ?_
  exact hret (x5 &&& ((63 : Int32))) S 52 _ (0, 0) (by decide) (by decide) dJ6_bitCount_0f7a4_52 rfl (zz_ro h)


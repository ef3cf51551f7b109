def zf_X1_heldAtTurn (N : Nat) (z : Nat) (S : zz_St) (p1 : Int32) (p2 : Int32) : Option Int32 := zz_let ((0 : Int32)) (fun x1 => zz_fix1 (fun rc3 (v2 : Int32) => if (zz_gi S 6) ≤ v2 then (some ((-1 : Int32))) else (zz_gd (zz_in v2 z) (zz_jn1 (fun (u5 : Unit) => zz_let (v2 + (1 : Int32)) (fun x8 => rc3 x8)) (fun j6 => if (zz_ga S 10 v2.toNatClampNeg) = p1 then (zz_gd (zz_in v2 z) (if (zz_ga S 11 v2.toNatClampNeg) = p2 then (some (v2)) else (j6 ()))) else (j6 ()))))) N x1)
theorem zi_X1_heldAtTurn_X1 : ∀ w ∈ wsX10, w ∈ wsX1_heldAtTurn := by decide +kernel
theorem zm_X1_heldAtTurn_33 : Cond.fieldLink RX1 33 "GridRipUp$Grid" "cells" "I" ∈ wsX1_heldAtTurn := by decide +kernel
theorem zm_X1_heldAtTurn_43 : Cond.fieldLink RX1 43 "GridRipUp$Grid" "holder" "[I" ∈ wsX1_heldAtTurn := by decide +kernel
theorem zm_X1_heldAtTurn_47 : Cond.fieldLink RX1 47 "GridRipUp$Grid" "turn" "[I" ∈ wsX1_heldAtTurn := by decide +kernel
theorem zd_X1_heldAtTurn : yX1_heldAtTurn.cls = RX1 ∧ yX1_heldAtTurn.cls ≠ "java/lang/invoke/MethodHandle" ∧ yX1_heldAtTurn.cls ≠ "java/lang/invoke/VarHandle" ∧ (parseMethodDescriptor yX1_heldAtTurn.desc).map (fun d => d.parameters.length) = some 2 := by decide +kernel
set_option maxHeartbeats 4000000 in
set_option maxRecDepth 100000 in
theorem zc_X1_heldAtTurn (N : Nat) (l : Launch) (D : va_G) (k : Nat → ClassId) {a : Nat → Nat} {z : Nat} (S : zz_St) (p1 : Int32) (p2 : Int32)  (v : Int32) (h : zf_X1_heldAtTurn N z S p1 p2 = some v) : zz_MI l yX1_heldAtTurn wsX1_heldAtTurn ({ frames := 0, cells := 0, slots := 0, locals := 0 } : Room) D k (zz_wC a k z) [.ref (a 1), .int p1, .int p2] S (v, S) := by
  refine zz_metI (cc := cX1_heldAtTurn) (nL := 4) (ty := .int) (by decide) rfl (Nat.le_of_ble_eq_true rfl) ?_
  intro X C hret
  have C : zz_ok X cX1_heldAtTurn RX1 wsX1_heldAtTurn k 4 ({ frames := 0, cells := 0, slots := 0, locals := 0 } : Room) := C
  unfold zf_X1_heldAtTurn at h
  show zz_ww X (0, 0) (zz_wC a k z S) 0 [(0, .ref (a 1)), (1, .int p1), (2, .int p2)] []
  refine zr_ic (v := (0 : Int32)) C dX1_heldAtTurn_0 (by decide) rfl ?_
  refine zr_isn C [1, 2, 3, 0] dX1_heldAtTurn_1 rfl rfl (by decide) (fun x1 => [(0, .ref (a 1)), (1, .int p1), (2, .int p2), (3, .int x1)]) h (fun _ => rfl) (fun x1 h => ?_)
  refine zz_fix1_W (fun (v2 : Int32) => zz_ww X (0, 0) (zz_wC a k z S) 2 [(0, .ref (a 1)), (1, .int p1), (2, .int p2), (3, .int v2)] []) ?_ N x1 h
  intro rc3 hr4 v2 h
  refine zr_iln C 3 dX1_heldAtTurn_2 rfl rfl rfl ?_
  refine zr_aln C 0 dX1_heldAtTurn_3 rfl rfl rfl ?_
  refine zg_X1_4 C zi_X1_heldAtTurn_X1 zm_X1_heldAtTurn_33 dX1_heldAtTurn_4 rfl ?_
  refine zr_icmp_ge (tgt := 38) C dX1_heldAtTurn_7 (by decide) rfl h (fun h => ?_) (fun h => ?_)
  · refine zr_ic (v := (-1 : Int32)) C dX1_heldAtTurn_38 (by decide) rfl ?_
    exact hret ((-1 : Int32)) S 39 _ (0, 0) (by decide) (by decide) dX1_heldAtTurn_39 rfl (zz_ro h)
  · refine zr_aln C 0 dX1_heldAtTurn_10 rfl rfl rfl ?_
    refine zg_X1_7 C zi_X1_heldAtTurn_X1 zm_X1_heldAtTurn_43 dX1_heldAtTurn_11 rfl ?_
    refine zr_iln C 3 dX1_heldAtTurn_14 rfl rfl rfl ?_
    refine zl_C10 C dX1_heldAtTurn_15 rfl h (fun h => ?_)
    refine zr_iln C 1 dX1_heldAtTurn_16 rfl rfl rfl ?_
    refine zz_jn1_W h (fun (u5 : Unit) => zz_ww X (0, 0) (zz_wC a k z S) 32 [(0, .ref (a 1)), (1, .int p1), (2, .int p2), (3, .int v2)] []) ?_ ?_
    · intro u5 h
      refine zr_iinc (v := (1 : Int32)) C 3 [1, 2, 3, 0] dX1_heldAtTurn_32 rfl (by decide) rfl (by decide) (fun x8 => [(0, .ref (a 1)), (1, .int p1), (2, .int p2), (3, .int x8)]) h (fun _ => rfl) (fun x8 h => ?_)
      refine zr_goto (tgt := 2) C dX1_heldAtTurn_35 (by decide) ?_
      exact hr4 x8 h
    intro j6 hj7 h
    refine zr_icmp_ne (tgt := 32) C dX1_heldAtTurn_17 (by decide) rfl h (fun h => ?_) (fun h => ?_)
    · exact hj7 () h
    · refine zr_aln C 0 dX1_heldAtTurn_20 rfl rfl rfl ?_
      refine zg_X1_8 C zi_X1_heldAtTurn_X1 zm_X1_heldAtTurn_47 dX1_heldAtTurn_21 rfl ?_
      refine zr_iln C 3 dX1_heldAtTurn_24 rfl rfl rfl ?_
      refine zl_C11 C dX1_heldAtTurn_25 rfl h (fun h => ?_)
      refine zr_iln C 2 dX1_heldAtTurn_26 rfl rfl rfl ?_
      refine zr_icmp_ne (tgt := 32) C dX1_heldAtTurn_27 (by decide) rfl h (fun h => ?_) (fun h => ?_)
      · exact hj7 () h
      · refine zr_iln C 3 dX1_heldAtTurn_30 rfl rfl rfl ?_
        exact hret v2 S 31 _ (0, 0) (by decide) (by decide) dX1_heldAtTurn_31 rfl (zz_ro h)

def zf_X1_keepPinsAlone (N : Nat) (z : Nat) (S : zz_St) (p1 : Int32) : Option zz_St := zz_let ((0 : Int32)) (fun x1 => zz_fix2 (fun rc4 (v2 : Int32) (S3 : zz_St) => if (zz_gi S3 6) ≤ v2 then (some S3) else (zz_gd (zz_in v2 z) (zz_jn1 (fun (S6 : zz_St) => zz_let (v2 + (1 : Int32)) (fun x9 => rc4 x9 S6)) (fun j7 => if (zz_ga S3 10 v2.toNatClampNeg) = p1 then (zz_gd (zz_in v2 z) (if (zz_ga S3 9 v2.toNatClampNeg) = 0 then (zz_gd (zz_in v2 z) (zz_let (zz_sa S3 10 (upd (zz_ga S3 10) v2.toNatClampNeg ((-1 : Int32)))) (fun S10 => j7 S10))) else (j7 S3))) else (j7 S3))))) N x1 S)
theorem zi_X1_keepPinsAlone_X1 : ∀ w ∈ wsX10, w ∈ wsX1_keepPinsAlone := by decide +kernel
theorem zm_X1_keepPinsAlone_33 : Cond.fieldLink RX1 33 "GridRipUp$Grid" "cells" "I" ∈ wsX1_keepPinsAlone := by decide +kernel
theorem zm_X1_keepPinsAlone_43 : Cond.fieldLink RX1 43 "GridRipUp$Grid" "holder" "[I" ∈ wsX1_keepPinsAlone := by decide +kernel
theorem zm_X1_keepPinsAlone_40 : Cond.fieldLink RX1 40 "GridRipUp$Grid" "pinned" "[Z" ∈ wsX1_keepPinsAlone := by decide +kernel
theorem zd_X1_keepPinsAlone : yX1_keepPinsAlone.cls = RX1 ∧ yX1_keepPinsAlone.cls ≠ "java/lang/invoke/MethodHandle" ∧ yX1_keepPinsAlone.cls ≠ "java/lang/invoke/VarHandle" ∧ (parseMethodDescriptor yX1_keepPinsAlone.desc).map (fun d => d.parameters.length) = some 1 := by decide +kernel
set_option maxHeartbeats 4000000 in
set_option maxRecDepth 100000 in
theorem zc_X1_keepPinsAlone (N : Nat) (l : Launch) (D : va_G) (k : Nat → ClassId) {a : Nat → Nat} {z : Nat} (S : zz_St) (p1 : Int32)  (u : zz_St) (h : zf_X1_keepPinsAlone N z S p1 = some u) : zz_MV l yX1_keepPinsAlone wsX1_keepPinsAlone ({ frames := 0, cells := 0, slots := 0, locals := 0 } : Room) D k (zz_wC a k z) [.ref (a 1), .int p1] S u := by
  refine zz_metV (cc := cX1_keepPinsAlone) (nL := 3) (by decide) rfl (Nat.le_of_ble_eq_true rfl) ?_
  intro X C hret
  have C : zz_ok X cX1_keepPinsAlone RX1 wsX1_keepPinsAlone k 3 ({ frames := 0, cells := 0, slots := 0, locals := 0 } : Room) := C
  unfold zf_X1_keepPinsAlone at h
  show zz_ww X (0, 0) (zz_wC a k z S) 0 [(0, .ref (a 1)), (1, .int p1)] []
  refine zr_ic (v := (0 : Int32)) C dX1_keepPinsAlone_0 (by decide) rfl ?_
  refine zr_isn C [1, 2, 0] dX1_keepPinsAlone_1 rfl rfl (by decide) (fun x1 => [(0, .ref (a 1)), (1, .int p1), (2, .int x1)]) h (fun _ => rfl) (fun x1 h => ?_)
  refine zz_fix2_W (fun (v2 : Int32) (S3 : zz_St) => zz_ww X (0, 0) (zz_wC a k z S3) 2 [(0, .ref (a 1)), (1, .int p1), (2, .int v2)] []) ?_ N x1 S h
  intro rc4 hr5 v2 S3 h
  refine zr_iln C 2 dX1_keepPinsAlone_2 rfl rfl rfl ?_
  refine zr_aln C 0 dX1_keepPinsAlone_3 rfl rfl rfl ?_
  refine zg_X1_4 C zi_X1_keepPinsAlone_X1 zm_X1_keepPinsAlone_33 dX1_keepPinsAlone_4 rfl ?_
  refine zr_icmp_ge (tgt := 42) C dX1_keepPinsAlone_7 (by decide) rfl h (fun h => ?_) (fun h => ?_)
  · exact hret S3 42 _ (0, 0) (by decide) (by decide) dX1_keepPinsAlone_42 h
  · refine zr_aln C 0 dX1_keepPinsAlone_10 rfl rfl rfl ?_
    refine zg_X1_7 C zi_X1_keepPinsAlone_X1 zm_X1_keepPinsAlone_43 dX1_keepPinsAlone_11 rfl ?_
    refine zr_iln C 2 dX1_keepPinsAlone_14 rfl rfl rfl ?_
    refine zl_C10 C dX1_keepPinsAlone_15 rfl h (fun h => ?_)
    refine zr_iln C 1 dX1_keepPinsAlone_16 rfl rfl rfl ?_
    refine zz_jn1_W h (fun (S6 : zz_St) => zz_ww X (0, 0) (zz_wC a k z S6) 36 [(0, .ref (a 1)), (1, .int p1), (2, .int v2)] []) ?_ ?_
    · intro S6 h
      refine zr_iinc (v := (1 : Int32)) C 2 [1, 2, 0] dX1_keepPinsAlone_36 rfl (by decide) rfl (by decide) (fun x9 => [(0, .ref (a 1)), (1, .int p1), (2, .int x9)]) h (fun _ => rfl) (fun x9 h => ?_)
      refine zr_goto (tgt := 2) C dX1_keepPinsAlone_39 (by decide) ?_
      exact hr5 x9 S6 h
    intro j7 hj8 h
    refine zr_icmp_ne (tgt := 36) C dX1_keepPinsAlone_17 (by decide) rfl h (fun h => ?_) (fun h => ?_)
    · exact hj8 S3 h
    · refine zr_aln C 0 dX1_keepPinsAlone_20 rfl rfl rfl ?_
      refine zg_X1_6 C zi_X1_keepPinsAlone_X1 zm_X1_keepPinsAlone_40 dX1_keepPinsAlone_21 rfl ?_
      refine zr_iln C 2 dX1_keepPinsAlone_24 rfl rfl rfl ?_
      refine zl_C9 C dX1_keepPinsAlone_25 rfl h (fun h => ?_)
      refine zr_if_ne (tgt := 36) C dX1_keepPinsAlone_26 (by decide) rfl h (fun h => ?_) (fun h => ?_)
      · exact hj8 S3 h
      · refine zr_aln C 0 dX1_keepPinsAlone_29 rfl rfl rfl ?_
        refine zg_X1_7 C zi_X1_keepPinsAlone_X1 zm_X1_keepPinsAlone_43 dX1_keepPinsAlone_30 rfl ?_
        refine zr_iln C 2 dX1_keepPinsAlone_33 rfl rfl rfl ?_
        refine zr_ic (v := (-1 : Int32)) C dX1_keepPinsAlone_34 (by decide) rfl ?_
        refine zs_C10 C dX1_keepPinsAlone_35 rfl h (fun S10 h => ?_)
        exact hj8 S10 h

def zf_X2_isOpen (N : Nat) (z : Nat) (S : zz_St) (q : Nat) : Option Int32 := zz_jn1 (fun (v1 : Int32) => zz_gd (zz_bl v1) (some (v1))) (fun j2 => zz_jn1 (fun (u4 : Unit) => j2 ((0 : Int32))) (fun j5 => if (zz_ga S 21 q) ≤ 0 then (j5 ()) else (if (zz_ga S 22 q) = 0 then (j2 ((1 : Int32))) else (j5 ()))))
theorem zi_X2_isOpen_X2 : ∀ w ∈ wsX20, w ∈ wsX2_isOpen := by decide +kernel
theorem zm_X2_isOpen_13 : Cond.fieldLink RX2 13 "GridRipUp$Net" "pinCount" "I" ∈ wsX2_isOpen := by decide +kernel
theorem zm_X2_isOpen_17 : Cond.fieldLink RX2 17 "GridRipUp$Net" "led" "Z" ∈ wsX2_isOpen := by decide +kernel
theorem zd_X2_isOpen : yX2_isOpen.cls = RX2 ∧ yX2_isOpen.cls ≠ "java/lang/invoke/MethodHandle" ∧ yX2_isOpen.cls ≠ "java/lang/invoke/VarHandle" ∧ (parseMethodDescriptor yX2_isOpen.desc).map (fun d => d.parameters.length) = some 0 := by decide +kernel
set_option maxHeartbeats 4000000 in
set_option maxRecDepth 100000 in
theorem zc_X2_isOpen (N : Nat) (l : Launch) (D : va_G) (k : Nat → ClassId) {a : Nat → Nat} {z : Nat} (S : zz_St) (q : Nat) (hq : q < 12) (v : Int32) (h : zf_X2_isOpen N z S q = some v) : zz_MI l yX2_isOpen wsX2_isOpen ({ frames := 0, cells := 0, slots := 0, locals := 0 } : Room) D k (zz_wC a k z) [.ref (a (21 + q))] S (v, S) := by
  refine zz_metI (cc := cX2_isOpen) (nL := 1) (ty := .boolean) (by decide) rfl (Nat.le_of_ble_eq_true rfl) ?_
  intro X C hret
  have C : zz_ok X cX2_isOpen RX2 wsX2_isOpen k 1 ({ frames := 0, cells := 0, slots := 0, locals := 0 } : Room) := C
  unfold zf_X2_isOpen at h
  show zz_ww X (0, 0) (zz_wC a k z S) 0 [(0, .ref (a (21 + q)))] []
  refine zr_aln C 0 dX2_isOpen_0 rfl rfl rfl ?_
  refine zg_X2_1 C hq zi_X2_isOpen_X2 zm_X2_isOpen_13 dX2_isOpen_1 rfl ?_
  refine zz_jn1_W h (fun (v1 : Int32) => zz_ww X (0, 0) (zz_wC a k z S) 19 [] [.int v1]) ?_ ?_
  · intro v1 h
    obtain ⟨hb, h⟩ := zz_gd_some h
    exact hret v1 S 19 _ (0, 0) (by decide) (by decide) dX2_isOpen_19 (zz_bl_nar hb) (zz_ro h)
  intro j2 hj3 h
  refine zz_jn1_W h (fun (u4 : Unit) => zz_ww X (0, 0) (zz_wC a k z S) 18 [] []) ?_ ?_
  · intro u4 h
    refine zr_ic (v := (0 : Int32)) C dX2_isOpen_18 (by decide) rfl ?_
    exact hj3 ((0 : Int32)) h
  intro j5 hj6 h
  refine zr_if_le (tgt := 18) C dX2_isOpen_4 (by decide) rfl h (fun h => ?_) (fun h => ?_)
  · refine zr_sub [] rfl ?_
    exact hj6 () h
  · refine zr_aln C 0 dX2_isOpen_7 rfl rfl rfl ?_
    refine zg_X2_2 C hq zi_X2_isOpen_X2 zm_X2_isOpen_17 dX2_isOpen_8 rfl ?_
    refine zr_if_ne (tgt := 18) C dX2_isOpen_11 (by decide) rfl h (fun h => ?_) (fun h => ?_)
    · refine zr_sub [] rfl ?_
      exact hj6 () h
    · refine zr_ic (v := (1 : Int32)) C dX2_isOpen_14 (by decide) rfl ?_
      refine zr_goto (tgt := 19) C dX2_isOpen_15 (by decide) ?_
      refine zr_sub [] rfl ?_
      exact hj3 ((1 : Int32)) h

def zf_X2_hasRoom (N : Nat) (z : Nat) (S : zz_St) (q : Nat) : Option Int32 := zz_jn1 (fun (v1 : Int32) => zz_gd (zz_bl v1) (some (v1))) (fun j2 => if ((5 : Int32)) ≤ (zz_ga S 21 q) then (j2 ((0 : Int32))) else (j2 ((1 : Int32))))
theorem zi_X2_hasRoom_X2 : ∀ w ∈ wsX20, w ∈ wsX2_hasRoom := by decide +kernel
theorem zm_X2_hasRoom_13 : Cond.fieldLink RX2 13 "GridRipUp$Net" "pinCount" "I" ∈ wsX2_hasRoom := by decide +kernel
theorem zd_X2_hasRoom : yX2_hasRoom.cls = RX2 ∧ yX2_hasRoom.cls ≠ "java/lang/invoke/MethodHandle" ∧ yX2_hasRoom.cls ≠ "java/lang/invoke/VarHandle" ∧ (parseMethodDescriptor yX2_hasRoom.desc).map (fun d => d.parameters.length) = some 0 := by decide +kernel
set_option maxHeartbeats 4000000 in
set_option maxRecDepth 100000 in
theorem zc_X2_hasRoom (N : Nat) (l : Launch) (D : va_G) (k : Nat → ClassId) {a : Nat → Nat} {z : Nat} (S : zz_St) (q : Nat) (hq : q < 12) (v : Int32) (h : zf_X2_hasRoom N z S q = some v) : zz_MI l yX2_hasRoom wsX2_hasRoom ({ frames := 0, cells := 0, slots := 0, locals := 0 } : Room) D k (zz_wC a k z) [.ref (a (21 + q))] S (v, S) := by
  refine zz_metI (cc := cX2_hasRoom) (nL := 1) (ty := .boolean) (by decide) rfl (Nat.le_of_ble_eq_true rfl) ?_
  intro X C hret
  have C : zz_ok X cX2_hasRoom RX2 wsX2_hasRoom k 1 ({ frames := 0, cells := 0, slots := 0, locals := 0 } : Room) := C
  unfold zf_X2_hasRoom at h
  show zz_ww X (0, 0) (zz_wC a k z S) 0 [(0, .ref (a (21 + q)))] []
  refine zr_aln C 0 dX2_hasRoom_0 rfl rfl rfl ?_
  refine zg_X2_1 C hq zi_X2_hasRoom_X2 zm_X2_hasRoom_13 dX2_hasRoom_1 rfl ?_
  refine zr_ic (v := (5 : Int32)) C dX2_hasRoom_4 (by decide) rfl ?_
  refine zz_jn1_W h (fun (v1 : Int32) => zz_ww X (0, 0) (zz_wC a k z S) 13 [] [.int v1]) ?_ ?_
  · intro v1 h
    obtain ⟨hb, h⟩ := zz_gd_some h
    exact hret v1 S 13 _ (0, 0) (by decide) (by decide) dX2_hasRoom_13 (zz_bl_nar hb) (zz_ro h)
  intro j2 hj3 h
  refine zr_icmp_ge (tgt := 12) C dX2_hasRoom_5 (by decide) rfl h (fun h => ?_) (fun h => ?_)
  · refine zr_ic (v := (0 : Int32)) C dX2_hasRoom_12 (by decide) rfl ?_
    refine zr_sub [] rfl ?_
    exact hj3 ((0 : Int32)) h
  · refine zr_ic (v := (1 : Int32)) C dX2_hasRoom_8 (by decide) rfl ?_
    refine zr_goto (tgt := 13) C dX2_hasRoom_9 (by decide) ?_
    refine zr_sub [] rfl ?_
    exact hj3 ((1 : Int32)) h

def zf_X2_addPin (N : Nat) (z : Nat) (S : zz_St) (q : Nat) (p1 : Int32) : Option zz_St := zz_b1 (zf_X2_hasRoom N z S q) (fun x1 => zz_jn1 (fun (S2 : zz_St) => some S2) (fun j3 => if x1 = 0 then (j3 S) else (zz_gd (zz_in (zz_ga S 21 q) 5) (zz_let (zz_sp S q (upd (zz_gp S q) (zz_ga S 21 q).toNatClampNeg p1)) (fun S5 => zz_let (zz_sa S5 21 (upd (zz_ga S5 21) q ((zz_ga S5 21 q) + ((1 : Int32))))) (fun S6 => j3 S6))))))
theorem zi_X2_addPin_X2 : ∀ w ∈ wsX20, w ∈ wsX2_addPin := by decide +kernel
theorem zm_X2_addPin_9 : Cond.fieldLink RX2 9 "GridRipUp$Net" "pins" "[I" ∈ wsX2_addPin := by decide +kernel
theorem zm_X2_addPin_13 : Cond.fieldLink RX2 13 "GridRipUp$Net" "pinCount" "I" ∈ wsX2_addPin := by decide +kernel
theorem zd_X2_addPin : yX2_addPin.cls = RX2 ∧ yX2_addPin.cls ≠ "java/lang/invoke/MethodHandle" ∧ yX2_addPin.cls ≠ "java/lang/invoke/VarHandle" ∧ (parseMethodDescriptor yX2_addPin.desc).map (fun d => d.parameters.length) = some 1 := by decide +kernel
set_option maxHeartbeats 4000000 in
set_option maxRecDepth 100000 in
theorem zc_X2_addPin (N : Nat) (l : Launch) (D : va_G) (k : Nat → ClassId) {a : Nat → Nat} {z : Nat} (S : zz_St) (q : Nat) (p1 : Int32) (hq : q < 12) (u : zz_St) (h : zf_X2_addPin N z S q p1 = some u) : zz_MV l yX2_addPin wsX2_addPin ({ frames := 1, cells := 0, slots := 0, locals := 20 } : Room) D k (zz_wC a k z) [.ref (a (21 + q)), .int p1] S u := by
  refine zz_metV (cc := cX2_addPin) (nL := 2) (by decide) rfl (Nat.le_of_ble_eq_true rfl) ?_
  intro X C hret
  have C : zz_ok X cX2_addPin RX2 wsX2_addPin k 2 ({ frames := 1, cells := 0, slots := 0, locals := 20 } : Room) := C
  unfold zf_X2_addPin at h
  show zz_ww X (0, 0) (zz_wC a k z S) 0 [(0, .ref (a (21 + q))), (1, .int p1)] []
  refine zr_aln C 0 dX2_addPin_0 rfl rfl rfl ?_
  refine zr_cVir (wf := (zz_wC a k z)) (st := []) C (fun l D v hv => zc_X2_hasRoom N l D k (a := a) (z := z) S q hq v hv) gX2_addPin_X2_hasRoom rfl zd_X2_hasRoom ⟨by decide, by decide⟩ ⟨by decide, by decide⟩ rfl ⟨21 + q, 2, _, _, _, zk_Cn hq, rfl⟩ (Nat.le_of_ble_eq_true rfl) rfl dX2_addPin_1 rfl rfl h (fun x1 _ h => ?_)
  refine zz_jn1_W h (fun (S2 : zz_St) => zz_ww X (0, 0) (zz_wC a k z S2) 27 [] []) ?_ ?_
  · intro S2 h
    exact hret S2 27 _ (0, 0) (by decide) (by decide) dX2_addPin_27 h
  intro j3 hj4 h
  refine zr_if_eq (tgt := 27) C dX2_addPin_4 (by decide) rfl h (fun h => ?_) (fun h => ?_)
  · refine zr_sub [] rfl ?_
    exact hj4 S h
  · refine zr_aln C 0 dX2_addPin_7 rfl rfl rfl ?_
    refine zg_X2_0 C hq zi_X2_addPin_X2 zm_X2_addPin_9 dX2_addPin_8 rfl ?_
    refine zr_aln C 0 dX2_addPin_11 rfl rfl rfl ?_
    refine zg_X2_1 C hq zi_X2_addPin_X2 zm_X2_addPin_13 dX2_addPin_12 rfl ?_
    refine zr_iln C 1 dX2_addPin_15 rfl rfl rfl ?_
    refine zs_Cp C hq dX2_addPin_16 rfl h (fun S5 h => ?_)
    refine zr_aln C 0 dX2_addPin_17 rfl rfl rfl ?_
    refine zr_dup C dX2_addPin_18 rfl rfl ?_
    refine zg_X2_1 C hq zi_X2_addPin_X2 zm_X2_addPin_13 dX2_addPin_19 rfl ?_
    refine zr_ic (v := (1 : Int32)) C dX2_addPin_22 (by decide) rfl ?_
    refine zr_iadd C dX2_addPin_23 rfl ?_
    refine zp_X2_1 C hq zi_X2_addPin_X2 zm_X2_addPin_13 dX2_addPin_24 rfl h (fun S6 h => ?_)
    refine zr_sub [] rfl ?_
    exact hj4 S6 h

def zf_X3_change (N : Nat) (z : Nat) (S : zz_St) (p1 : Int32) (p2 : Int32) (p3 : Int32) (p4 : Int32) : Option (Int32 × zz_St) := zz_gd (zz_in p1 4) (zz_jn1 (fun (v1 : Int32) => zz_let v1 (fun x4 => zz_gd (zz_in p1 4) (zz_let (zz_sa S 13 (upd (zz_ga S 13) p1.toNatClampNeg p2)) (fun S5 => zz_gd (zz_in p1 4) (zz_let (zz_sa S5 14 (upd (zz_ga S5 14) p1.toNatClampNeg p3)) (fun S6 => zz_gd (zz_in p1 4) (zz_let (zz_sa S6 15 (upd (zz_ga S6 15) p1.toNatClampNeg p4)) (fun S7 => zz_gd (zz_bl x4) (some (x4, S7)))))))))) (fun j2 => zz_jn1 (fun (u8 : Unit) => j2 ((1 : Int32))) (fun j9 => if (zz_ga S 13 p1.toNatClampNeg) = p2 then (zz_gd (zz_in p1 4) (if (zz_ga S 14 p1.toNatClampNeg) = p3 then (zz_gd (zz_in p1 4) (if (zz_ga S 15 p1.toNatClampNeg) = p4 then (j2 ((0 : Int32))) else (j9 ()))) else (j9 ()))) else (j9 ()))))
theorem zi_X3_change_X3 : ∀ w ∈ wsX30, w ∈ wsX3_change := by decide +kernel
theorem zm_X3_change_9 : Cond.fieldLink RX3 9 "GridRipUp$Prices" "across" "[I" ∈ wsX3_change := by decide +kernel
theorem zm_X3_change_15 : Cond.fieldLink RX3 15 "GridRipUp$Prices" "via" "[I" ∈ wsX3_change := by decide +kernel
theorem zm_X3_change_18 : Cond.fieldLink RX3 18 "GridRipUp$Prices" "near" "[I" ∈ wsX3_change := by decide +kernel
theorem zd_X3_change : yX3_change.cls = RX3 ∧ yX3_change.cls ≠ "java/lang/invoke/MethodHandle" ∧ yX3_change.cls ≠ "java/lang/invoke/VarHandle" ∧ (parseMethodDescriptor yX3_change.desc).map (fun d => d.parameters.length) = some 4 := by decide +kernel
set_option maxHeartbeats 4000000 in
set_option maxRecDepth 100000 in
theorem zc_X3_change (N : Nat) (l : Launch) (D : va_G) (k : Nat → ClassId) {a : Nat → Nat} {z : Nat} (S : zz_St) (p1 : Int32) (p2 : Int32) (p3 : Int32) (p4 : Int32)  (v : Int32) (u : zz_St) (h : zf_X3_change N z S p1 p2 p3 p4 = some (v, u)) : zz_MI l yX3_change wsX3_change ({ frames := 0, cells := 0, slots := 0, locals := 0 } : Room) D k (zz_wC a k z) [.ref (a 2), .int p1, .int p2, .int p3, .int p4] S (v, u) := by
  refine zz_metI (cc := cX3_change) (nL := 6) (ty := .boolean) (by decide) rfl (Nat.le_of_ble_eq_true rfl) ?_
  intro X C hret
  have C : zz_ok X cX3_change RX3 wsX3_change k 6 ({ frames := 0, cells := 0, slots := 0, locals := 0 } : Room) := C
  unfold zf_X3_change at h
  show zz_ww X (0, 0) (zz_wC a k z S) 0 [(0, .ref (a 2)), (1, .int p1), (2, .int p2), (3, .int p3), (4, .int p4)] []
  refine zr_aln C 0 dX3_change_0 rfl rfl rfl ?_
  refine zg_X3_0 C zi_X3_change_X3 zm_X3_change_9 dX3_change_1 rfl ?_
  refine zr_iln C 1 dX3_change_4 rfl rfl rfl ?_
  refine zl_C13 C dX3_change_5 rfl h (fun h => ?_)
  refine zr_iln C 2 dX3_change_6 rfl rfl rfl ?_
  refine zz_jn1_W h (fun (v1 : Int32) => zz_ww X (0, 0) (zz_wC a k z S) 36 [(0, .ref (a 2)), (1, .int p1), (2, .int p2), (3, .int p3), (4, .int p4)] [.int v1]) ?_ ?_
  · intro v1 h
    refine zr_is C [1, 2, 3, 4, 5, 0] dX3_change_36 rfl (by decide) (fun x4 => [(0, .ref (a 2)), (1, .int p1), (2, .int p2), (3, .int p3), (4, .int p4), (5, .int x4)]) h (fun _ => rfl) (fun x4 h => ?_)
    refine zr_aln C 0 dX3_change_38 rfl rfl rfl ?_
    refine zg_X3_0 C zi_X3_change_X3 zm_X3_change_9 dX3_change_39 rfl ?_
    refine zr_iln C 1 dX3_change_42 rfl rfl rfl ?_
    refine zr_iln C 2 dX3_change_43 rfl rfl rfl ?_
    refine zs_C13 C dX3_change_44 rfl h (fun S5 h => ?_)
    refine zr_aln C 0 dX3_change_45 rfl rfl rfl ?_
    refine zg_X3_1 C zi_X3_change_X3 zm_X3_change_15 dX3_change_46 rfl ?_
    refine zr_iln C 1 dX3_change_49 rfl rfl rfl ?_
    refine zr_iln C 3 dX3_change_50 rfl rfl rfl ?_
    refine zs_C14 C dX3_change_51 rfl h (fun S6 h => ?_)
    refine zr_aln C 0 dX3_change_52 rfl rfl rfl ?_
    refine zg_X3_2 C zi_X3_change_X3 zm_X3_change_18 dX3_change_53 rfl ?_
    refine zr_iln C 1 dX3_change_56 rfl rfl rfl ?_
    refine zr_il C 4 dX3_change_57 rfl rfl ?_
    refine zs_C15 C dX3_change_59 rfl h (fun S7 h => ?_)
    refine zr_il C 5 dX3_change_60 rfl rfl ?_
    obtain ⟨hb, h⟩ := zz_gd_some h
    exact hret x4 S7 62 _ (0, 0) (by decide) (by decide) dX3_change_62 (zz_bl_nar hb) h
  intro j2 hj3 h
  refine zz_jn1_W h (fun (u8 : Unit) => zz_ww X (0, 0) (zz_wC a k z S) 31 [(0, .ref (a 2)), (1, .int p1), (2, .int p2), (3, .int p3), (4, .int p4)] []) ?_ ?_
  · intro u8 h
    refine zr_ic (v := (1 : Int32)) C dX3_change_31 (by decide) rfl ?_
    refine zr_goto (tgt := 36) C dX3_change_32 (by decide) ?_
    exact hj3 ((1 : Int32)) h
  intro j9 hj10 h
  refine zr_icmp_ne (tgt := 31) C dX3_change_7 (by decide) rfl h (fun h => ?_) (fun h => ?_)
  · exact hj10 () h
  · refine zr_aln C 0 dX3_change_10 rfl rfl rfl ?_
    refine zg_X3_1 C zi_X3_change_X3 zm_X3_change_15 dX3_change_11 rfl ?_
    refine zr_iln C 1 dX3_change_14 rfl rfl rfl ?_
    refine zl_C14 C dX3_change_15 rfl h (fun h => ?_)
    refine zr_iln C 3 dX3_change_16 rfl rfl rfl ?_
    refine zr_icmp_ne (tgt := 31) C dX3_change_17 (by decide) rfl h (fun h => ?_) (fun h => ?_)
    · exact hj10 () h
    · refine zr_aln C 0 dX3_change_20 rfl rfl rfl ?_
      refine zg_X3_2 C zi_X3_change_X3 zm_X3_change_18 dX3_change_21 rfl ?_
      refine zr_iln C 1 dX3_change_24 rfl rfl rfl ?_
      refine zl_C15 C dX3_change_25 rfl h (fun h => ?_)
      refine zr_il C 4 dX3_change_26 rfl rfl ?_
      refine zr_icmp_eq (tgt := 35) C dX3_change_28 (by decide) rfl h (fun h => ?_) (fun h => ?_)
      · refine zr_ic (v := (0 : Int32)) C dX3_change_35 (by decide) rfl ?_
        exact hj3 ((0 : Int32)) h
      · exact hj10 () h

def zf_X3_ofMove (N : Nat) (z : Nat) (S : zz_St) (p1 : Int32) (p2 : Int32) : Option Int32 := if p2 = ((5 : Int32)) then (zz_gd (zz_in p1 4) (some (((2 : Int32)) + (zz_ga S 14 p1.toNatClampNeg)))) else (if p2 = 0 then (zz_jn1 (fun (v15 : Int32) => some (v15)) (fun j16 => if p1 ≤ 0 then (j16 ((2 : Int32))) else (zz_gd (zz_in (p1 - ((1 : Int32))) 4) (j16 (((2 : Int32)) + (zz_ga S 14 (p1 - ((1 : Int32))).toNatClampNeg)))))) else (zz_jn1 (fun (v1 : Int32) => zz_let v1 (fun x4 => zz_gd (!(((2 : Int32)) == 0)) (zz_jn1 (fun (v5 : Int32) => zz_let v5 (fun x8 => zz_jn1 (fun (v9 : Int32) => some (v9)) (fun j10 => if x4 = x8 then (j10 ((2 : Int32))) else (zz_gd (zz_in p1 4) (j10 (((2 : Int32)) + (zz_ga S 13 p1.toNatClampNeg))))))) (fun j6 => if (p1 - p1 / ((2 : Int32)) * ((2 : Int32))) = 0 then (j6 ((1 : Int32))) else (j6 ((0 : Int32))))))) (fun j2 => zz_jn1 (fun (u12 : Unit) => j2 ((1 : Int32))) (fun j13 => if p2 = ((2 : Int32)) then (j13 ()) else (if p2 = ((3 : Int32)) then (j13 ()) else (j2 ((0 : Int32))))))))
theorem zi_X3_ofMove_X3 : ∀ w ∈ wsX30, w ∈ wsX3_ofMove := by decide +kernel
theorem zm_X3_ofMove_9 : Cond.fieldLink RX3 9 "GridRipUp$Prices" "across" "[I" ∈ wsX3_ofMove := by decide +kernel
theorem zm_X3_ofMove_15 : Cond.fieldLink RX3 15 "GridRipUp$Prices" "via" "[I" ∈ wsX3_ofMove := by decide +kernel
theorem zd_X3_ofMove : yX3_ofMove.cls = RX3 ∧ yX3_ofMove.cls ≠ "java/lang/invoke/MethodHandle" ∧ yX3_ofMove.cls ≠ "java/lang/invoke/VarHandle" ∧ (parseMethodDescriptor yX3_ofMove.desc).map (fun d => d.parameters.length) = some 2 := by decide +kernel
set_option maxHeartbeats 4000000 in
set_option maxRecDepth 100000 in
theorem zc_X3_ofMove (N : Nat) (l : Launch) (D : va_G) (k : Nat → ClassId) {a : Nat → Nat} {z : Nat} (S : zz_St) (p1 : Int32) (p2 : Int32)  (v : Int32) (h : zf_X3_ofMove N z S p1 p2 = some v) : zz_MI l yX3_ofMove wsX3_ofMove ({ frames := 0, cells := 0, slots := 0, locals := 0 } : Room) D k (zz_wC a k z) [.ref (a 2), .int p1, .int p2] S (v, S) := by
  refine zz_metI (cc := cX3_ofMove) (nL := 5) (ty := .int) (by decide) rfl (Nat.le_of_ble_eq_true rfl) ?_
  intro X C hret
  have C : zz_ok X cX3_ofMove RX3 wsX3_ofMove k 5 ({ frames := 0, cells := 0, slots := 0, locals := 0 } : Room) := C
  unfold zf_X3_ofMove at h
  show zz_ww X (0, 0) (zz_wC a k z S) 0 [(0, .ref (a 2)), (1, .int p1), (2, .int p2)] []
  refine zr_iln C 2 dX3_ofMove_0 rfl rfl rfl ?_
  refine zr_ic (v := (5 : Int32)) C dX3_ofMove_1 (by decide) rfl ?_
  refine zr_icmp_ne (tgt := 14) C dX3_ofMove_2 (by decide) rfl h (fun h => ?_) (fun h => ?_)
  · refine zr_iln C 2 dX3_ofMove_14 rfl rfl rfl ?_
    refine zr_if_ne (tgt := 37) C dX3_ofMove_15 (by decide) rfl h (fun h => ?_) (fun h => ?_)
    · refine zr_iln C 2 dX3_ofMove_37 rfl rfl rfl ?_
      refine zr_ic (v := (2 : Int32)) C dX3_ofMove_38 (by decide) rfl ?_
      refine zz_jn1_W h (fun (v1 : Int32) => zz_ww X (0, 0) (zz_wC a k z S) 52 [(0, .ref (a 2)), (1, .int p1)] [.int v1]) ?_ ?_
      · intro v1 h
        refine zr_isn C [1, 2, 0] dX3_ofMove_52 rfl rfl (by decide) (fun x4 => [(0, .ref (a 2)), (1, .int p1), (3, .int x4)]) h (fun _ => rfl) (fun x4 h => ?_)
        refine zr_iln C 1 dX3_ofMove_53 rfl rfl rfl ?_
        refine zr_ic (v := (2 : Int32)) C dX3_ofMove_54 (by decide) rfl ?_
        refine zr_irem C dX3_ofMove_55 rfl h (fun h => ?_)
        refine zz_jn1_W h (fun (v5 : Int32) => zz_ww X (0, 0) (zz_wC a k z S) 64 [(0, .ref (a 2)), (1, .int p1), (3, .int x4)] [.int v5]) ?_ ?_
        · intro v5 h
          refine zr_is C [1, 2, 3, 0] dX3_ofMove_64 rfl (by decide) (fun x8 => [(0, .ref (a 2)), (1, .int p1), (3, .int x4), (4, .int x8)]) h (fun _ => rfl) (fun x8 h => ?_)
          refine zr_iln C 2 dX3_ofMove_66 rfl rfl rfl ?_
          refine zr_il C 3 dX3_ofMove_67 rfl rfl ?_
          refine zz_jn1_W h (fun (v9 : Int32) => zz_ww X (0, 0) (zz_wC a k z S) 84 [] [.int v9]) ?_ ?_
          · intro v9 h
            exact hret v9 S 84 _ (0, 0) (by decide) (by decide) dX3_ofMove_84 rfl (zz_ro h)
          intro j10 hj11 h
          refine zr_icmp_ne (tgt := 76) C dX3_ofMove_69 (by decide) rfl h (fun h => ?_) (fun h => ?_)
          · refine zr_ic (v := (2 : Int32)) C dX3_ofMove_76 (by decide) rfl ?_
            refine zr_aln C 0 dX3_ofMove_77 rfl rfl rfl ?_
            refine zg_X3_0 C zi_X3_ofMove_X3 zm_X3_ofMove_9 dX3_ofMove_78 rfl ?_
            refine zr_iln C 1 dX3_ofMove_81 rfl rfl rfl ?_
            refine zl_C13 C dX3_ofMove_82 rfl h (fun h => ?_)
            refine zr_iadd C dX3_ofMove_83 rfl ?_
            refine zr_sub [] rfl ?_
            exact hj11 (((2 : Int32)) + (zz_ga S 13 p1.toNatClampNeg)) h
          · refine zr_ic (v := (2 : Int32)) C dX3_ofMove_72 (by decide) rfl ?_
            refine zr_goto (tgt := 84) C dX3_ofMove_73 (by decide) ?_
            refine zr_sub [] rfl ?_
            exact hj11 ((2 : Int32)) h
        intro j6 hj7 h
        refine zr_if_ne (tgt := 63) C dX3_ofMove_56 (by decide) rfl h (fun h => ?_) (fun h => ?_)
        · refine zr_ic (v := (0 : Int32)) C dX3_ofMove_63 (by decide) rfl ?_
          exact hj7 ((0 : Int32)) h
        · refine zr_ic (v := (1 : Int32)) C dX3_ofMove_59 (by decide) rfl ?_
          refine zr_goto (tgt := 64) C dX3_ofMove_60 (by decide) ?_
          exact hj7 ((1 : Int32)) h
      intro j2 hj3 h
      refine zz_jn1_W h (fun (u12 : Unit) => zz_ww X (0, 0) (zz_wC a k z S) 47 [(0, .ref (a 2)), (1, .int p1)] []) ?_ ?_
      · intro u12 h
        refine zr_ic (v := (1 : Int32)) C dX3_ofMove_47 (by decide) rfl ?_
        refine zr_goto (tgt := 52) C dX3_ofMove_48 (by decide) ?_
        exact hj3 ((1 : Int32)) h
      intro j13 hj14 h
      refine zr_icmp_eq (tgt := 47) C dX3_ofMove_39 (by decide) rfl h (fun h => ?_) (fun h => ?_)
      · refine zr_sub [0, 1] rfl ?_
        exact hj14 () h
      · refine zr_iln C 2 dX3_ofMove_42 rfl rfl rfl ?_
        refine zr_ic (v := (3 : Int32)) C dX3_ofMove_43 (by decide) rfl ?_
        refine zr_icmp_ne (tgt := 51) C dX3_ofMove_44 (by decide) rfl h (fun h => ?_) (fun h => ?_)
        · refine zr_ic (v := (0 : Int32)) C dX3_ofMove_51 (by decide) rfl ?_
          refine zr_sub [0, 1] rfl ?_
          exact hj3 ((0 : Int32)) h
        · refine zr_sub [0, 1] rfl ?_
          exact hj14 () h
    · refine zr_iln C 1 dX3_ofMove_18 rfl rfl rfl ?_
      refine zz_jn1_W h (fun (v15 : Int32) => zz_ww X (0, 0) (zz_wC a k z S) 36 [] [.int v15]) ?_ ?_
      · intro v15 h
        exact hret v15 S 36 _ (0, 0) (by decide) (by decide) dX3_ofMove_36 rfl (zz_ro h)
      intro j16 hj17 h
      refine zr_if_le (tgt := 35) C dX3_ofMove_19 (by decide) rfl h (fun h => ?_) (fun h => ?_)
      · refine zr_ic (v := (2 : Int32)) C dX3_ofMove_35 (by decide) rfl ?_
        refine zr_sub [] rfl ?_
        exact hj17 ((2 : Int32)) h
      · refine zr_ic (v := (2 : Int32)) C dX3_ofMove_22 (by decide) rfl ?_
        refine zr_aln C 0 dX3_ofMove_23 rfl rfl rfl ?_
        refine zg_X3_1 C zi_X3_ofMove_X3 zm_X3_ofMove_15 dX3_ofMove_24 rfl ?_
        refine zr_iln C 1 dX3_ofMove_27 rfl rfl rfl ?_
        refine zr_ic (v := (1 : Int32)) C dX3_ofMove_28 (by decide) rfl ?_
        refine zr_isub C dX3_ofMove_29 rfl ?_
        refine zl_C14 C dX3_ofMove_30 rfl h (fun h => ?_)
        refine zr_iadd C dX3_ofMove_31 rfl ?_
        refine zr_goto (tgt := 36) C dX3_ofMove_32 (by decide) ?_
        refine zr_sub [] rfl ?_
        exact hj17 (((2 : Int32)) + (zz_ga S 14 (p1 - ((1 : Int32))).toNatClampNeg)) h
  · refine zr_ic (v := (2 : Int32)) C dX3_ofMove_5 (by decide) rfl ?_
    refine zr_aln C 0 dX3_ofMove_6 rfl rfl rfl ?_
    refine zg_X3_1 C zi_X3_ofMove_X3 zm_X3_ofMove_15 dX3_ofMove_7 rfl ?_
    refine zr_iln C 1 dX3_ofMove_10 rfl rfl rfl ?_
    refine zl_C14 C dX3_ofMove_11 rfl h (fun h => ?_)
    refine zr_iadd C dX3_ofMove_12 rfl ?_
    exact hret (((2 : Int32)) + (zz_ga S 14 p1.toNatClampNeg)) S 13 _ (0, 0) (by decide) (by decide) dX3_ofMove_13 rfl (zz_ro h)

def zf_X4_raiseTollsBeside (N : Nat) (z : Nat) (S : zz_St) (p1 : Int32) : Option zz_St := zz_b1 (zf_X1_layerOf N z S p1) (fun x1 => zz_gd (zz_in x1 4) (zz_let (zz_ga S 15 x1.toNatClampNeg) (fun x2 => zz_let ((1 : Int32)) (fun x3 => zz_fix2 (fun rc6 (v4 : Int32) (S5 : zz_St) => zz_jn1 (fun (u8 : Unit) => some S5) (fun j9 => if ((4 : Int32)) < v4 then (j9 ()) else (if x2 ≤ 0 then (j9 ()) else (zz_b1 (zf_X1_neighbour N z S5 p1 v4) (fun x11 => zz_let x11 (fun x12 => zz_jn1 (fun (S13 : zz_St) => zz_let (v4 + (1 : Int32)) (fun x16 => rc6 x16 S13)) (fun j14 => if x12 = ((-1 : Int32)) then (j14 S5) else (zz_gd (zz_in x12 z) (if (lg_cmp (zz_gA S5 18 x12.toNatClampNeg) ((-1 : Int64))) = 0 then (j14 S5) else (zz_gd (zz_in x12 z) (zz_gd (zz_in x12 z) (zz_let (zz_sA S5 18 (vp_updL (zz_gA S5 18) x12.toNatClampNeg ((zz_gA S5 18 x12.toNatClampNeg) + x2.toInt64))) (fun S17 => j14 S17))))))))))))) N x3 S))))
theorem zi_X4_raiseTollsBeside_X4 : ∀ w ∈ wsX40, w ∈ wsX4_raiseTollsBeside := by decide +kernel
theorem zm_X4_raiseTollsBeside_15 : Cond.fieldLink RX4 15 "GridRipUp$Search" "prices" "LGridRipUp$Prices;" ∈ wsX4_raiseTollsBeside := by decide +kernel
theorem zi_X4_raiseTollsBeside_X3 : ∀ w ∈ wsX30, w ∈ wsX4_raiseTollsBeside := by decide +kernel
theorem zm_X4_raiseTollsBeside_85 : Cond.fieldLink RX4 85 "GridRipUp$Prices" "near" "[I" ∈ wsX4_raiseTollsBeside := by decide +kernel
theorem zm_X4_raiseTollsBeside_9 : Cond.fieldLink RX4 9 "GridRipUp$Search" "grid" "LGridRipUp$Grid;" ∈ wsX4_raiseTollsBeside := by decide +kernel
theorem zm_X4_raiseTollsBeside_29 : Cond.fieldLink RX4 29 "GridRipUp$Search" "toll" "[J" ∈ wsX4_raiseTollsBeside := by decide +kernel
theorem zm_X4_raiseTollsBeside_c75 : Jvm.Cond.constantLong RX4 75 (-1) ∈ wsX4_raiseTollsBeside := by decide +kernel
theorem zd_X4_raiseTollsBeside : yX4_raiseTollsBeside.cls = RX4 ∧ yX4_raiseTollsBeside.cls ≠ "java/lang/invoke/MethodHandle" ∧ yX4_raiseTollsBeside.cls ≠ "java/lang/invoke/VarHandle" ∧ (parseMethodDescriptor yX4_raiseTollsBeside.desc).map (fun d => d.parameters.length) = some 1 := by decide +kernel
set_option maxHeartbeats 4000000 in
set_option maxRecDepth 100000 in
theorem zc_X4_raiseTollsBeside (N : Nat) (l : Launch) (D : va_G) (k : Nat → ClassId) {a : Nat → Nat} {z : Nat} (S : zz_St) (p1 : Int32)  (u : zz_St) (h : zf_X4_raiseTollsBeside N z S p1 = some u) : zz_MV l yX4_raiseTollsBeside wsX4_raiseTollsBeside ({ frames := 1, cells := 0, slots := 0, locals := 22 } : Room) D k (zz_wC a k z) [.ref (a 3), .int p1] S u := by
  refine zz_metV (cc := cX4_raiseTollsBeside) (nL := 5) (by decide) rfl (Nat.le_of_ble_eq_true rfl) ?_
  intro X C hret
  have C : zz_ok X cX4_raiseTollsBeside RX4 wsX4_raiseTollsBeside k 5 ({ frames := 1, cells := 0, slots := 0, locals := 22 } : Room) := C
  unfold zf_X4_raiseTollsBeside at h
  show zz_ww X (0, 0) (zz_wC a k z S) 0 [(0, .ref (a 3)), (1, .int p1)] []
  refine zr_aln C 0 dX4_raiseTollsBeside_0 rfl rfl rfl ?_
  refine zg_X4_1 C zi_X4_raiseTollsBeside_X4 zm_X4_raiseTollsBeside_15 dX4_raiseTollsBeside_1 rfl ?_
  refine zg_X3_2 C zi_X4_raiseTollsBeside_X3 zm_X4_raiseTollsBeside_85 dX4_raiseTollsBeside_4 rfl ?_
  refine zr_aln C 0 dX4_raiseTollsBeside_7 rfl rfl rfl ?_
  refine zg_X4_0 C zi_X4_raiseTollsBeside_X4 zm_X4_raiseTollsBeside_9 dX4_raiseTollsBeside_8 rfl ?_
  refine zr_iln C 1 dX4_raiseTollsBeside_11 rfl rfl rfl ?_
  refine zr_cVir (wf := (zz_wC a k z)) (st := [.ref (a 15)]) C (fun l D v hv => zc_X1_layerOf N l D k (a := a) (z := z) S p1 v hv) gX4_raiseTollsBeside_X1_layerOf rfl zd_X1_layerOf ⟨by decide, by decide⟩ ⟨by decide, by decide⟩ rfl ⟨1, 1, _, _, _, zk_C1, rfl⟩ (Nat.le_of_ble_eq_true rfl) rfl dX4_raiseTollsBeside_12 rfl rfl h (fun x1 _ h => ?_)
  refine zl_C15 C dX4_raiseTollsBeside_15 rfl h (fun h => ?_)
  refine zr_isn C [1, 2, 0] dX4_raiseTollsBeside_16 rfl rfl (by decide) (fun x2 => [(0, .ref (a 3)), (1, .int p1), (2, .int x2)]) h (fun _ => rfl) (fun x2 h => ?_)
  refine zr_ic (v := (1 : Int32)) C dX4_raiseTollsBeside_17 (by decide) rfl ?_
  refine zr_isn C [1, 2, 3, 0] dX4_raiseTollsBeside_18 rfl rfl (by decide) (fun x3 => [(0, .ref (a 3)), (1, .int p1), (2, .int x2), (3, .int x3)]) h (fun _ => rfl) (fun x3 h => ?_)
  refine zz_fix2_W (fun (v4 : Int32) (S5 : zz_St) => zz_ww X (0, 0) (zz_wC a k z S5) 19 [(0, .ref (a 3)), (1, .int p1), (2, .int x2), (3, .int v4)] []) ?_ N x3 S h
  intro rc6 hr7 v4 S5 h
  refine zr_iln C 3 dX4_raiseTollsBeside_19 rfl rfl rfl ?_
  refine zr_ic (v := (4 : Int32)) C dX4_raiseTollsBeside_20 (by decide) rfl ?_
  refine zz_jn1_W h (fun (u8 : Unit) => zz_ww X (0, 0) (zz_wC a k z S5) 77 [] []) ?_ ?_
  · intro u8 h
    exact hret S5 77 _ (0, 0) (by decide) (by decide) dX4_raiseTollsBeside_77 h
  intro j9 hj10 h
  refine zr_icmp_gt (tgt := 77) C dX4_raiseTollsBeside_21 (by decide) rfl h (fun h => ?_) (fun h => ?_)
  · refine zr_sub [] rfl ?_
    exact hj10 () h
  · refine zr_iln C 2 dX4_raiseTollsBeside_24 rfl rfl rfl ?_
    refine zr_if_le (tgt := 77) C dX4_raiseTollsBeside_25 (by decide) rfl h (fun h => ?_) (fun h => ?_)
    · refine zr_sub [] rfl ?_
      exact hj10 () h
    · refine zr_aln C 0 dX4_raiseTollsBeside_28 rfl rfl rfl ?_
      refine zg_X4_0 C zi_X4_raiseTollsBeside_X4 zm_X4_raiseTollsBeside_9 dX4_raiseTollsBeside_29 rfl ?_
      refine zr_iln C 1 dX4_raiseTollsBeside_32 rfl rfl rfl ?_
      refine zr_iln C 3 dX4_raiseTollsBeside_33 rfl rfl rfl ?_
      refine zr_cVir (wf := (zz_wC a k z)) (st := []) C (fun l D v hv => zc_X1_neighbour N l D k (a := a) (z := z) S5 p1 v4 v hv) gX4_raiseTollsBeside_X1_neighbour rfl zd_X1_neighbour ⟨by decide, by decide⟩ ⟨by decide, by decide⟩ rfl ⟨1, 1, _, _, _, zk_C1, rfl⟩ (Nat.le_of_ble_eq_true rfl) rfl dX4_raiseTollsBeside_34 rfl rfl h (fun x11 _ h => ?_)
      refine zr_is C [1, 2, 3, 4, 0] dX4_raiseTollsBeside_37 rfl (by decide) (fun x12 => [(0, .ref (a 3)), (1, .int p1), (2, .int x2), (3, .int v4), (4, .int x12)]) h (fun _ => rfl) (fun x12 h => ?_)
      refine zr_il C 4 dX4_raiseTollsBeside_39 rfl rfl ?_
      refine zr_ic (v := (-1 : Int32)) C dX4_raiseTollsBeside_41 (by decide) rfl ?_
      refine zz_jn1_W h (fun (S13 : zz_St) => zz_ww X (0, 0) (zz_wC a k z S13) 71 [(0, .ref (a 3)), (1, .int p1), (2, .int x2), (3, .int v4)] []) ?_ ?_
      · intro S13 h
        refine zr_iinc (v := (1 : Int32)) C 3 [1, 2, 3, 0] dX4_raiseTollsBeside_71 rfl (by decide) rfl (by decide) (fun x16 => [(0, .ref (a 3)), (1, .int p1), (2, .int x2), (3, .int x16)]) h (fun _ => rfl) (fun x16 h => ?_)
        refine zr_goto (tgt := 19) C dX4_raiseTollsBeside_74 (by decide) ?_
        exact hr7 x16 S13 h
      intro j14 hj15 h
      refine zr_icmp_eq (tgt := 71) C dX4_raiseTollsBeside_42 (by decide) rfl h (fun h => ?_) (fun h => ?_)
      · refine zr_sub [0, 1, 2, 3] rfl ?_
        exact hj15 S5 h
      · refine zr_aln C 0 dX4_raiseTollsBeside_45 rfl rfl rfl ?_
        refine zg_X4_3 C zi_X4_raiseTollsBeside_X4 zm_X4_raiseTollsBeside_29 dX4_raiseTollsBeside_46 rfl ?_
        refine zr_il C 4 dX4_raiseTollsBeside_49 rfl rfl ?_
        refine zl_C18 C dX4_raiseTollsBeside_51 rfl h (fun h => ?_)
        refine zr_ldc2 (v := (-1 : Int64)) C dX4_raiseTollsBeside_52 zm_X4_raiseTollsBeside_c75 rfl ?_
        refine zr_lcmp C dX4_raiseTollsBeside_55 rfl ?_
        refine zr_if_eq (tgt := 71) C dX4_raiseTollsBeside_56 (by decide) rfl h (fun h => ?_) (fun h => ?_)
        · refine zr_sub [0, 1, 2, 3] rfl ?_
          exact hj15 S5 h
        · refine zr_aln C 0 dX4_raiseTollsBeside_59 rfl rfl rfl ?_
          refine zg_X4_3 C zi_X4_raiseTollsBeside_X4 zm_X4_raiseTollsBeside_29 dX4_raiseTollsBeside_60 rfl ?_
          refine zr_il C 4 dX4_raiseTollsBeside_63 rfl rfl ?_
          refine zr_dup2 C dX4_raiseTollsBeside_65 rfl rfl rfl ?_
          refine zl_C18 C dX4_raiseTollsBeside_66 rfl h (fun h => ?_)
          refine zr_iln C 2 dX4_raiseTollsBeside_67 rfl rfl rfl ?_
          refine zr_i2l C dX4_raiseTollsBeside_68 rfl ?_
          refine zr_ladd C dX4_raiseTollsBeside_69 rfl ?_
          refine zs_C18 C dX4_raiseTollsBeside_70 rfl h (fun S17 h => ?_)
          refine zr_sub [0, 1, 2, 3] rfl ?_
          exact hj15 S17 h

def zf_X4_setTolls (N : Nat) (z : Nat) (S : zz_St) (p1 : Int32) (p2 : Int32) : Option zz_St := zz_let ((0 : Int32)) (fun x1 => zz_fix2 (fun rc4 (v2 : Int32) (S3 : zz_St) => if (zz_gi S3 6) ≤ v2 then (zz_let ((0 : Int32)) (fun x6 => zz_fix2 (fun rc9 (v7 : Int32) (S8 : zz_St) => if (zz_gi S8 6) ≤ v7 then (some S8) else (zz_b1 (zf_X1_heldByOther N z S8 v7 p1) (fun x11 => zz_jn1 (fun (S12 : zz_St) => zz_let (v7 + (1 : Int32)) (fun x15 => rc9 x15 S12)) (fun j13 => if x11 = 0 then (j13 S8) else (zz_b1 (zf_X4_raiseTollsBeside N z S8 v7) (fun S16 => j13 S16)))))) N x6 S3)) else (zz_b1 (zf_X1_heldByOther N z S3 v2 p1) (fun x17 => zz_let x17 (fun x18 => zz_gd (zz_in v2 z) (zz_jn1 (fun (v19 : Int32) => zz_let v19 (fun x22 => zz_jn1 (fun (v23 : Int64) => zz_gd (zz_in v2 z) (zz_let (zz_sA S3 18 (vp_updL (zz_gA S3 18) v2.toNatClampNeg v23)) (fun S26 => zz_let (v2 + (1 : Int32)) (fun x27 => rc4 x27 S26)))) (fun j24 => if x22 = 0 then (zz_gd (zz_in v2 z) (zz_jn1 (fun (v28 : Int64) => j24 ((zz_gA S3 12 v2.toNatClampNeg) + v28)) (fun j29 => if x18 = 0 then (j29 ((0 : Int64))) else (j29 ((100 : Int64)))))) else (j24 ((-1 : Int64)))))) (fun j20 => zz_jn1 (fun (u31 : Unit) => j20 ((1 : Int32))) (fun j32 => if (zz_ga S3 8 v2.toNatClampNeg) = 0 then (zz_jn1 (fun (u34 : Unit) => j20 ((0 : Int32))) (fun j35 => if x18 = 0 then (j35 ()) else (if p2 = 0 then (j32 ()) else (zz_gd (zz_in v2 z) (if (zz_ga S3 9 v2.toNatClampNeg) = 0 then (j35 ()) else (j32 ())))))) else (j32 ())))))))) N x1 S)
theorem zi_X4_setTolls_X4 : ∀ w ∈ wsX40, w ∈ wsX4_setTolls := by decide +kernel
theorem zm_X4_setTolls_9 : Cond.fieldLink RX4 9 "GridRipUp$Search" "grid" "LGridRipUp$Grid;" ∈ wsX4_setTolls := by decide +kernel
theorem zi_X4_setTolls_X1 : ∀ w ∈ wsX10, w ∈ wsX4_setTolls := by decide +kernel
theorem zm_X4_setTolls_19 : Cond.fieldLink RX4 19 "GridRipUp$Grid" "cells" "I" ∈ wsX4_setTolls := by decide +kernel
theorem zm_X4_setTolls_68 : Cond.fieldLink RX4 68 "GridRipUp$Grid" "barred" "[Z" ∈ wsX4_setTolls := by decide +kernel
theorem zm_X4_setTolls_29 : Cond.fieldLink RX4 29 "GridRipUp$Search" "toll" "[J" ∈ wsX4_setTolls := by decide +kernel
theorem zm_X4_setTolls_77 : Cond.fieldLink RX4 77 "GridRipUp$Grid" "scars" "[J" ∈ wsX4_setTolls := by decide +kernel
theorem zm_X4_setTolls_c80 : Jvm.Cond.constantLong RX4 80 (100) ∈ wsX4_setTolls := by decide +kernel
theorem zm_X4_setTolls_c75 : Jvm.Cond.constantLong RX4 75 (-1) ∈ wsX4_setTolls := by decide +kernel
theorem zm_X4_setTolls_72 : Cond.fieldLink RX4 72 "GridRipUp$Grid" "pinned" "[Z" ∈ wsX4_setTolls := by decide +kernel
theorem zd_X4_setTolls : yX4_setTolls.cls = RX4 ∧ yX4_setTolls.cls ≠ "java/lang/invoke/MethodHandle" ∧ yX4_setTolls.cls ≠ "java/lang/invoke/VarHandle" ∧ (parseMethodDescriptor yX4_setTolls.desc).map (fun d => d.parameters.length) = some 2 := by decide +kernel
set_option maxHeartbeats 4000000 in
set_option maxRecDepth 100000 in
theorem zc_X4_setTolls (N : Nat) (l : Launch) (D : va_G) (k : Nat → ClassId) {a : Nat → Nat} {z : Nat} (S : zz_St) (p1 : Int32) (p2 : Int32)  (u : zz_St) (h : zf_X4_setTolls N z S p1 p2 = some u) : zz_MV l yX4_setTolls wsX4_setTolls ({ frames := 2, cells := 0, slots := 0, locals := 46 } : Room) D k (zz_wC a k z) [.ref (a 3), .int p1, .int p2] S u := by
  refine zz_metV (cc := cX4_setTolls) (nL := 6) (by decide) rfl (Nat.le_of_ble_eq_true rfl) ?_
  intro X C hret
  have C : zz_ok X cX4_setTolls RX4 wsX4_setTolls k 6 ({ frames := 2, cells := 0, slots := 0, locals := 46 } : Room) := C
  unfold zf_X4_setTolls at h
  show zz_ww X (0, 0) (zz_wC a k z S) 0 [(0, .ref (a 3)), (1, .int p1), (2, .int p2)] []
  refine zr_ic (v := (0 : Int32)) C dX4_setTolls_0 (by decide) rfl ?_
  refine zr_isn C [1, 2, 3, 0] dX4_setTolls_1 rfl rfl (by decide) (fun x1 => [(0, .ref (a 3)), (1, .int p1), (2, .int p2), (3, .int x1)]) h (fun _ => rfl) (fun x1 h => ?_)
  refine zz_fix2_W (fun (v2 : Int32) (S3 : zz_St) => zz_ww X (0, 0) (zz_wC a k z S3) 2 [(0, .ref (a 3)), (1, .int p1), (2, .int p2), (3, .int v2)] []) ?_ N x1 S h
  intro rc4 hr5 v2 S3 h
  refine zr_iln C 3 dX4_setTolls_2 rfl rfl rfl ?_
  refine zr_aln C 0 dX4_setTolls_3 rfl rfl rfl ?_
  refine zg_X4_0 C zi_X4_setTolls_X4 zm_X4_setTolls_9 dX4_setTolls_4 rfl ?_
  refine zg_X1_4 C zi_X4_setTolls_X1 zm_X4_setTolls_19 dX4_setTolls_7 rfl ?_
  refine zr_icmp_ge (tgt := 109) C dX4_setTolls_10 (by decide) rfl h (fun h => ?_) (fun h => ?_)
  · refine zr_ic (v := (0 : Int32)) C dX4_setTolls_109 (by decide) rfl ?_
    refine zr_isn C [1, 2, 3, 0] dX4_setTolls_110 rfl rfl (by decide) (fun x6 => [(0, .ref (a 3)), (1, .int p1), (2, .int p2), (3, .int x6)]) h (fun _ => rfl) (fun x6 h => ?_)
    refine zr_sub [0, 1, 3] rfl ?_
    refine zz_fix2_W (fun (v7 : Int32) (S8 : zz_St) => zz_ww X (0, 0) (zz_wC a k z S8) 111 [(0, .ref (a 3)), (1, .int p1), (3, .int v7)] []) ?_ N x6 S3 h
    intro rc9 hr10 v7 S8 h
    refine zr_iln C 2 dX4_setTolls_111 rfl rfl rfl ?_
    refine zr_aln C 0 dX4_setTolls_112 rfl rfl rfl ?_
    refine zg_X4_0 C zi_X4_setTolls_X4 zm_X4_setTolls_9 dX4_setTolls_113 rfl ?_
    refine zg_X1_4 C zi_X4_setTolls_X1 zm_X4_setTolls_19 dX4_setTolls_116 rfl ?_
    refine zr_icmp_ge (tgt := 145) C dX4_setTolls_119 (by decide) rfl h (fun h => ?_) (fun h => ?_)
    · exact hret S8 145 _ (0, 0) (by decide) (by decide) dX4_setTolls_145 h
    · refine zr_aln C 0 dX4_setTolls_122 rfl rfl rfl ?_
      refine zg_X4_0 C zi_X4_setTolls_X4 zm_X4_setTolls_9 dX4_setTolls_123 rfl ?_
      refine zr_iln C 2 dX4_setTolls_126 rfl rfl rfl ?_
      refine zr_iln C 1 dX4_setTolls_127 rfl rfl rfl ?_
      refine zr_cVir (wf := (zz_wC a k z)) (st := []) C (fun l D v hv => zc_X1_heldByOther N l D k (a := a) (z := z) S8 v7 p1 v hv) gX4_setTolls_X1_heldByOther rfl zd_X1_heldByOther ⟨by decide, by decide⟩ ⟨by decide, by decide⟩ rfl ⟨1, 1, _, _, _, zk_C1, rfl⟩ (Nat.le_of_ble_eq_true rfl) rfl dX4_setTolls_128 rfl rfl h (fun x11 _ h => ?_)
      refine zz_jn1_W h (fun (S12 : zz_St) => zz_ww X (0, 0) (zz_wC a k z S12) 139 [(0, .ref (a 3)), (1, .int p1), (3, .int v7)] []) ?_ ?_
      · intro S12 h
        refine zr_iinc (v := (1 : Int32)) C 2 [1, 2, 0] dX4_setTolls_139 rfl (by decide) rfl (by decide) (fun x15 => [(0, .ref (a 3)), (1, .int p1), (3, .int x15)]) h (fun _ => rfl) (fun x15 h => ?_)
        refine zr_goto (tgt := 111) C dX4_setTolls_142 (by decide) ?_
        exact hr10 x15 S12 h
      intro j13 hj14 h
      refine zr_if_eq (tgt := 139) C dX4_setTolls_131 (by decide) rfl h (fun h => ?_) (fun h => ?_)
      · exact hj14 S8 h
      · refine zr_aln C 0 dX4_setTolls_134 rfl rfl rfl ?_
        refine zr_iln C 2 dX4_setTolls_135 rfl rfl rfl ?_
        refine zr_cVv (wf := (zz_wC a k z)) (st := []) C (fun l D u hu => zc_X4_raiseTollsBeside N l D k (a := a) (z := z) S8 v7 u hu) gX4_setTolls_X4_raiseTollsBeside rfl zd_X4_raiseTollsBeside ⟨by decide, by decide⟩ ⟨by decide, by decide⟩ rfl ⟨3, 4, _, _, _, zk_C3, rfl⟩ (Nat.le_of_ble_eq_true rfl) rfl dX4_setTolls_136 rfl rfl h (fun S16 _ h => ?_)
        exact hj14 S16 h
  · refine zr_aln C 0 dX4_setTolls_13 rfl rfl rfl ?_
    refine zg_X4_0 C zi_X4_setTolls_X4 zm_X4_setTolls_9 dX4_setTolls_14 rfl ?_
    refine zr_iln C 3 dX4_setTolls_17 rfl rfl rfl ?_
    refine zr_iln C 1 dX4_setTolls_18 rfl rfl rfl ?_
    refine zr_cVir (wf := (zz_wC a k z)) (st := []) C (fun l D v hv => zc_X1_heldByOther N l D k (a := a) (z := z) S3 v2 p1 v hv) gX4_setTolls_X1_heldByOther rfl zd_X1_heldByOther ⟨by decide, by decide⟩ ⟨by decide, by decide⟩ rfl ⟨1, 1, _, _, _, zk_C1, rfl⟩ (Nat.le_of_ble_eq_true rfl) rfl dX4_setTolls_19 rfl rfl h (fun x17 _ h => ?_)
    refine zr_is C [1, 2, 3, 4, 0] dX4_setTolls_22 rfl (by decide) (fun x18 => [(0, .ref (a 3)), (1, .int p1), (2, .int p2), (3, .int v2), (4, .int x18)]) h (fun _ => rfl) (fun x18 h => ?_)
    refine zr_aln C 0 dX4_setTolls_24 rfl rfl rfl ?_
    refine zg_X4_0 C zi_X4_setTolls_X4 zm_X4_setTolls_9 dX4_setTolls_25 rfl ?_
    refine zg_X1_5 C zi_X4_setTolls_X1 zm_X4_setTolls_68 dX4_setTolls_28 rfl ?_
    refine zr_iln C 3 dX4_setTolls_31 rfl rfl rfl ?_
    refine zl_C8 C dX4_setTolls_32 rfl h (fun h => ?_)
    refine zz_jn1_W h (fun (v19 : Int32) => zz_ww X (0, 0) (zz_wC a k z S3) 62 [(0, .ref (a 3)), (1, .int p1), (2, .int p2), (3, .int v2), (4, .int x18)] [.int v19]) ?_ ?_
    · intro v19 h
      refine zr_is C [1, 2, 3, 4, 5, 0] dX4_setTolls_62 rfl (by decide) (fun x22 => [(0, .ref (a 3)), (1, .int p1), (2, .int p2), (3, .int v2), (4, .int x18), (5, .int x22)]) h (fun _ => rfl) (fun x22 h => ?_)
      refine zr_aln C 0 dX4_setTolls_64 rfl rfl rfl ?_
      refine zg_X4_3 C zi_X4_setTolls_X4 zm_X4_setTolls_29 dX4_setTolls_65 rfl ?_
      refine zr_iln C 3 dX4_setTolls_68 rfl rfl rfl ?_
      refine zr_il C 5 dX4_setTolls_69 rfl rfl ?_
      refine zz_jn1_W h (fun (v23 : Int64) => zz_ww X (0, 0) (zz_wC a k z S3) 102 [(0, .ref (a 3)), (1, .int p1), (2, .int p2), (3, .int v2)] [.long v23, .int v2, .ref (a 18)]) ?_ ?_
      · intro v23 h
        refine zs_C18 C dX4_setTolls_102 rfl h (fun S26 h => ?_)
        refine zr_iinc (v := (1 : Int32)) C 3 [1, 2, 3, 0] dX4_setTolls_103 rfl (by decide) rfl (by decide) (fun x27 => [(0, .ref (a 3)), (1, .int p1), (2, .int p2), (3, .int x27)]) h (fun _ => rfl) (fun x27 h => ?_)
        refine zr_goto (tgt := 2) C dX4_setTolls_106 (by decide) ?_
        exact hr5 x27 S26 h
      intro j24 hj25 h
      refine zr_if_eq (tgt := 80) C dX4_setTolls_71 (by decide) rfl h (fun h => ?_) (fun h => ?_)
      · refine zr_aln C 0 dX4_setTolls_80 rfl rfl rfl ?_
        refine zg_X4_0 C zi_X4_setTolls_X4 zm_X4_setTolls_9 dX4_setTolls_81 rfl ?_
        refine zg_X1_9 C zi_X4_setTolls_X1 zm_X4_setTolls_77 dX4_setTolls_84 rfl ?_
        refine zr_iln C 3 dX4_setTolls_87 rfl rfl rfl ?_
        refine zl_C12 C dX4_setTolls_88 rfl h (fun h => ?_)
        refine zr_il C 4 dX4_setTolls_89 rfl rfl ?_
        refine zz_jn1_W h (fun (v28 : Int64) => zz_ww X (0, 0) (zz_wC a k z S3) 101 [(0, .ref (a 3)), (1, .int p1), (2, .int p2), (3, .int v2)] [.long v28, .long (zz_gA S3 12 v2.toNatClampNeg), .int v2, .ref (a 18)]) ?_ ?_
        · intro v28 h
          refine zr_ladd C dX4_setTolls_101 rfl ?_
          exact hj25 ((zz_gA S3 12 v2.toNatClampNeg) + v28) h
        intro j29 hj30 h
        refine zr_if_eq (tgt := 100) C dX4_setTolls_91 (by decide) rfl h (fun h => ?_) (fun h => ?_)
        · refine zr_lc (v := 0) C dX4_setTolls_100 (by decide) rfl ?_
          refine zr_sub [0, 1, 2, 3] rfl ?_
          exact hj30 ((0 : Int64)) h
        · refine zr_ldc2 (v := (100 : Int64)) C dX4_setTolls_94 zm_X4_setTolls_c80 rfl ?_
          refine zr_goto (tgt := 101) C dX4_setTolls_97 (by decide) ?_
          refine zr_sub [0, 1, 2, 3] rfl ?_
          exact hj30 ((100 : Int64)) h
      · refine zr_ldc2 (v := (-1 : Int64)) C dX4_setTolls_74 zm_X4_setTolls_c75 rfl ?_
        refine zr_goto (tgt := 102) C dX4_setTolls_77 (by decide) ?_
        refine zr_sub [0, 1, 2, 3] rfl ?_
        exact hj25 ((-1 : Int64)) h
    intro j20 hj21 h
    refine zz_jn1_W h (fun (u31 : Unit) => zz_ww X (0, 0) (zz_wC a k z S3) 57 [(0, .ref (a 3)), (1, .int p1), (2, .int p2), (3, .int v2), (4, .int x18)] []) ?_ ?_
    · intro u31 h
      refine zr_ic (v := (1 : Int32)) C dX4_setTolls_57 (by decide) rfl ?_
      refine zr_goto (tgt := 62) C dX4_setTolls_58 (by decide) ?_
      exact hj21 ((1 : Int32)) h
    intro j32 hj33 h
    refine zr_if_ne (tgt := 57) C dX4_setTolls_33 (by decide) rfl h (fun h => ?_) (fun h => ?_)
    · exact hj33 () h
    · refine zr_il C 4 dX4_setTolls_36 rfl rfl ?_
      refine zz_jn1_W h (fun (u34 : Unit) => zz_ww X (0, 0) (zz_wC a k z S3) 61 [(0, .ref (a 3)), (1, .int p1), (2, .int p2), (3, .int v2), (4, .int x18)] []) ?_ ?_
      · intro u34 h
        refine zr_ic (v := (0 : Int32)) C dX4_setTolls_61 (by decide) rfl ?_
        exact hj21 ((0 : Int32)) h
      intro j35 hj36 h
      refine zr_if_eq (tgt := 61) C dX4_setTolls_38 (by decide) rfl h (fun h => ?_) (fun h => ?_)
      · exact hj36 () h
      · refine zr_iln C 2 dX4_setTolls_41 rfl rfl rfl ?_
        refine zr_if_eq (tgt := 57) C dX4_setTolls_42 (by decide) rfl h (fun h => ?_) (fun h => ?_)
        · exact hj33 () h
        · refine zr_aln C 0 dX4_setTolls_45 rfl rfl rfl ?_
          refine zg_X4_0 C zi_X4_setTolls_X4 zm_X4_setTolls_9 dX4_setTolls_46 rfl ?_
          refine zg_X1_6 C zi_X4_setTolls_X1 zm_X4_setTolls_72 dX4_setTolls_49 rfl ?_
          refine zr_iln C 3 dX4_setTolls_52 rfl rfl rfl ?_
          refine zl_C9 C dX4_setTolls_53 rfl h (fun h => ?_)
          refine zr_if_eq (tgt := 61) C dX4_setTolls_54 (by decide) rfl h (fun h => ?_) (fun h => ?_)
          · exact hj36 () h
          · exact hj33 () h

def zf_X4_startFrom (N : Nat) (z : Nat) (S : zz_St)  : Option zz_St := zz_gd (decide (z < 2147483648)) (zz_let (zz_sA S 17 (fun j => if j < z then ((-1 : Int64)) else zz_gA S 17 j)) (fun S1 => zz_b1 (zf_X0_clear N z S1) (fun S2 => zz_let ((0 : Int32)) (fun x3 => zz_fix2 (fun rc6 (v4 : Int32) (S5 : zz_St) => if (zz_gi S5 7) ≤ v4 then (some S5) else (zz_gd (zz_in v4 z) (zz_gd (zz_in (zz_ga S5 16 v4.toNatClampNeg) z) (zz_let (zz_sA S5 17 (vp_updL (zz_gA S5 17) (zz_ga S5 16 v4.toNatClampNeg).toNatClampNeg ((0 : Int64)))) (fun S8 => zz_gd (zz_in v4 z) (zz_b1 (zf_X0_put N z S8 (zz_ga S8 16 v4.toNatClampNeg)) (fun S9 => zz_let (v4 + (1 : Int32)) (fun x10 => rc6 x10 S9)))))))) N x3 S2))))
theorem zi_X4_startFrom_X4 : ∀ w ∈ wsX40, w ∈ wsX4_startFrom := by decide +kernel
theorem zm_X4_startFrom_25 : Cond.fieldLink RX4 25 "GridRipUp$Search" "distance" "[J" ∈ wsX4_startFrom := by decide +kernel
theorem zm_X4_startFrom_c75 : Jvm.Cond.constantLong RX4 75 (-1) ∈ wsX4_startFrom := by decide +kernel
theorem zm_X4_startFrom_37 : Cond.fieldLink RX4 37 "GridRipUp$Search" "frontier" "LGridRipUp$Frontier;" ∈ wsX4_startFrom := by decide +kernel
theorem zi_X4_startFrom_X5 : ∀ w ∈ wsX50, w ∈ wsX4_startFrom := by decide +kernel
theorem zm_X4_startFrom_107 : Cond.fieldLink RX4 107 "GridRipUp$Tree" "size" "I" ∈ wsX4_startFrom := by decide +kernel
theorem zm_X4_startFrom_110 : Cond.fieldLink RX4 110 "GridRipUp$Tree" "members" "[I" ∈ wsX4_startFrom := by decide +kernel
theorem zd_X4_startFrom : yX4_startFrom.cls = RX4 ∧ yX4_startFrom.cls ≠ "java/lang/invoke/MethodHandle" ∧ yX4_startFrom.cls ≠ "java/lang/invoke/VarHandle" ∧ (parseMethodDescriptor yX4_startFrom.desc).map (fun d => d.parameters.length) = some 1 := by decide +kernel
set_option maxHeartbeats 4000000 in
set_option maxRecDepth 100000 in
theorem zc_X4_startFrom (N : Nat) (l : Launch) (D : va_G) (k : Nat → ClassId) {a : Nat → Nat} {z : Nat} (S : zz_St)   (u : zz_St) (h : zf_X4_startFrom N z S  = some u) : zz_MV l yX4_startFrom wsX4_startFrom ({ frames := 2, cells := 0, slots := 0, locals := 46 } : Room) D k (zz_wC a k z) [.ref (a 3), .ref (a 4)] S u := by
  refine zz_metV (cc := cX4_startFrom) (nL := 3) (by decide) rfl (Nat.le_of_ble_eq_true rfl) ?_
  intro X C hret
  have C : zz_ok X cX4_startFrom RX4 wsX4_startFrom k 3 ({ frames := 2, cells := 0, slots := 0, locals := 46 } : Room) := C
  unfold zf_X4_startFrom at h
  show zz_ww X (0, 0) (zz_wC a k z S) 0 [(0, .ref (a 3)), (1, .ref (a 4))] []
  refine zr_aln C 0 dX4_startFrom_0 rfl rfl rfl ?_
  refine zg_X4_2 C zi_X4_startFrom_X4 zm_X4_startFrom_25 dX4_startFrom_1 rfl ?_
  refine zr_ldc2 (v := (-1 : Int64)) C dX4_startFrom_4 zm_X4_startFrom_c75 rfl ?_
  refine zr_fillJ_17 C gX4_startFrom_J7_fill_d0a16 ⟨by decide, by decide⟩ ⟨by decide, by decide⟩ (Nat.le_of_ble_eq_true rfl) dX4_startFrom_7 rfl h (fun S1 h => ?_)
  refine zr_aln C 0 dX4_startFrom_10 rfl rfl rfl ?_
  refine zg_X4_4 C zi_X4_startFrom_X4 zm_X4_startFrom_37 dX4_startFrom_11 rfl ?_
  refine zr_cVv (wf := (zz_wC a k z)) (st := []) C (fun l D u hu => zc_X0_clear N l D k (a := a) (z := z) S1  u hu) gX4_startFrom_X0_clear rfl zd_X0_clear ⟨by decide, by decide⟩ ⟨by decide, by decide⟩ rfl ⟨5, 0, _, _, _, zk_C5, rfl⟩ (Nat.le_of_ble_eq_true rfl) rfl dX4_startFrom_14 rfl rfl h (fun S2 _ h => ?_)
  refine zr_ic (v := (0 : Int32)) C dX4_startFrom_17 (by decide) rfl ?_
  refine zr_isn C [1, 2, 0] dX4_startFrom_18 rfl rfl (by decide) (fun x3 => [(0, .ref (a 3)), (1, .ref (a 4)), (2, .int x3)]) h (fun _ => rfl) (fun x3 h => ?_)
  refine zz_fix2_W (fun (v4 : Int32) (S5 : zz_St) => zz_ww X (0, 0) (zz_wC a k z S5) 19 [(0, .ref (a 3)), (1, .ref (a 4)), (2, .int v4)] []) ?_ N x3 S2 h
  intro rc6 hr7 v4 S5 h
  refine zr_iln C 2 dX4_startFrom_19 rfl rfl rfl ?_
  refine zr_aln C 1 dX4_startFrom_20 rfl rfl rfl ?_
  refine zg_X5_1 C zi_X4_startFrom_X5 zm_X4_startFrom_107 dX4_startFrom_21 rfl ?_
  refine zr_icmp_ge (tgt := 58) C dX4_startFrom_24 (by decide) rfl h (fun h => ?_) (fun h => ?_)
  · exact hret S5 58 _ (0, 0) (by decide) (by decide) dX4_startFrom_58 h
  · refine zr_aln C 0 dX4_startFrom_27 rfl rfl rfl ?_
    refine zg_X4_2 C zi_X4_startFrom_X4 zm_X4_startFrom_25 dX4_startFrom_28 rfl ?_
    refine zr_aln C 1 dX4_startFrom_31 rfl rfl rfl ?_
    refine zg_X5_0 C zi_X4_startFrom_X5 zm_X4_startFrom_110 dX4_startFrom_32 rfl ?_
    refine zr_iln C 2 dX4_startFrom_35 rfl rfl rfl ?_
    refine zl_C16 C dX4_startFrom_36 rfl h (fun h => ?_)
    refine zr_lc (v := 0) C dX4_startFrom_37 (by decide) rfl ?_
    refine zs_C17 C dX4_startFrom_38 rfl h (fun S8 h => ?_)
    refine zr_aln C 0 dX4_startFrom_39 rfl rfl rfl ?_
    refine zg_X4_4 C zi_X4_startFrom_X4 zm_X4_startFrom_37 dX4_startFrom_40 rfl ?_
    refine zr_aln C 1 dX4_startFrom_43 rfl rfl rfl ?_
    refine zg_X5_0 C zi_X4_startFrom_X5 zm_X4_startFrom_110 dX4_startFrom_44 rfl ?_
    refine zr_iln C 2 dX4_startFrom_47 rfl rfl rfl ?_
    refine zl_C16 C dX4_startFrom_48 rfl h (fun h => ?_)
    refine zr_cVv (wf := (zz_wC a k z)) (st := []) C (fun l D u hu => zc_X0_put N l D k (a := a) (z := z) S8 (zz_ga S8 16 v4.toNatClampNeg) u hu) gX4_startFrom_X0_put rfl zd_X0_put ⟨by decide, by decide⟩ ⟨by decide, by decide⟩ rfl ⟨5, 0, _, _, _, zk_C5, rfl⟩ (Nat.le_of_ble_eq_true rfl) rfl dX4_startFrom_49 rfl rfl h (fun S9 _ h => ?_)
    refine zr_iinc (v := (1 : Int32)) C 2 [1, 2, 0] dX4_startFrom_52 rfl (by decide) rfl (by decide) (fun x10 => [(0, .ref (a 3)), (1, .ref (a 4)), (2, .int x10)]) h (fun _ => rfl) (fun x10 h => ?_)
    refine zr_goto (tgt := 19) C dX4_startFrom_55 (by decide) ?_
    exact hr7 x10 S9 h


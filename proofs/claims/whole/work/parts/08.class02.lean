def zf_X4_spreadFrom (N : Nat) (z : Nat) (S : zz_St) (p1 : Int32) : Option zz_St := zz_b1 (zf_X1_layerOf N z S p1) (fun x1 => zz_let x1 (fun x2 => zz_let ((0 : Int32)) (fun x3 => zz_fix2 (fun rc6 (v4 : Int32) (S5 : zz_St) => if ((5 : Int32)) < v4 then (some S5) else (zz_b1 (zf_X1_neighbour N z S5 p1 v4) (fun x8 => zz_let x8 (fun x9 => zz_jn1 (fun (S10 : zz_St) => zz_let (v4 + (1 : Int32)) (fun x13 => rc6 x13 S10)) (fun j11 => if x9 = ((-1 : Int32)) then (j11 S5) else (zz_gd (zz_in x9 z) (if (lg_cmp (zz_gA S5 18 x9.toNatClampNeg) ((-1 : Int64))) = 0 then (j11 S5) else (zz_gd (zz_in p1 z) (zz_b1 (zf_X3_ofMove N z S5 x2 v4) (fun x14 => zz_gd (zz_in x9 z) (zz_let (((zz_gA S5 17 p1.toNatClampNeg) + x14.toInt64) + (zz_gA S5 18 x9.toNatClampNeg)) (fun x15 => zz_gd (zz_in x9 z) (zz_jn1 (fun (u16 : Unit) => zz_gd (zz_in x9 z) (zz_let (zz_sA S5 17 (vp_updL (zz_gA S5 17) x9.toNatClampNeg x15)) (fun S19 => zz_b1 (zf_X0_put N z S19 x9) (fun S20 => j11 S20)))) (fun j17 => if (lg_cmp (zz_gA S5 17 x9.toNatClampNeg) ((-1 : Int64))) = 0 then (j17 ()) else (zz_gd (zz_in x9 z) (if 0 ≤ (lg_cmp x15 (zz_gA S5 17 x9.toNatClampNeg)) then (j11 S5) else (j17 ()))))))))))))))))) N x3 S)))
theorem zi_X4_spreadFrom_X4 : ∀ w ∈ wsX40, w ∈ wsX4_spreadFrom := by decide +kernel
theorem zm_X4_spreadFrom_9 : Cond.fieldLink RX4 9 "GridRipUp$Search" "grid" "LGridRipUp$Grid;" ∈ wsX4_spreadFrom := by decide +kernel
theorem zm_X4_spreadFrom_29 : Cond.fieldLink RX4 29 "GridRipUp$Search" "toll" "[J" ∈ wsX4_spreadFrom := by decide +kernel
theorem zm_X4_spreadFrom_c75 : Jvm.Cond.constantLong RX4 75 (-1) ∈ wsX4_spreadFrom := by decide +kernel
theorem zm_X4_spreadFrom_25 : Cond.fieldLink RX4 25 "GridRipUp$Search" "distance" "[J" ∈ wsX4_spreadFrom := by decide +kernel
theorem zm_X4_spreadFrom_15 : Cond.fieldLink RX4 15 "GridRipUp$Search" "prices" "LGridRipUp$Prices;" ∈ wsX4_spreadFrom := by decide +kernel
theorem zm_X4_spreadFrom_37 : Cond.fieldLink RX4 37 "GridRipUp$Search" "frontier" "LGridRipUp$Frontier;" ∈ wsX4_spreadFrom := by decide +kernel
theorem zd_X4_spreadFrom : yX4_spreadFrom.cls = RX4 ∧ yX4_spreadFrom.cls ≠ "java/lang/invoke/MethodHandle" ∧ yX4_spreadFrom.cls ≠ "java/lang/invoke/VarHandle" ∧ (parseMethodDescriptor yX4_spreadFrom.desc).map (fun d => d.parameters.length) = some 1 := by decide +kernel
set_option maxHeartbeats 4000000 in
set_option maxRecDepth 100000 in
theorem zc_X4_spreadFrom (N : Nat) (l : Launch) (D : va_G) (k : Nat → ClassId) {a : Nat → Nat} {z : Nat} (S : zz_St) (p1 : Int32)  (u : zz_St) (h : zf_X4_spreadFrom N z S p1 = some u) : zz_MV l yX4_spreadFrom wsX4_spreadFrom ({ frames := 2, cells := 0, slots := 0, locals := 46 } : Room) D k (zz_wC a k z) [.ref (a 3), .int p1] S u := by
  refine zz_metV (cc := cX4_spreadFrom) (nL := 7) (by decide) rfl (Nat.le_of_ble_eq_true rfl) ?_
  intro X C hret
  have C : zz_ok X cX4_spreadFrom RX4 wsX4_spreadFrom k 7 ({ frames := 2, cells := 0, slots := 0, locals := 46 } : Room) := C
  unfold zf_X4_spreadFrom at h
  show zz_ww X (0, 0) (zz_wC a k z S) 0 [(0, .ref (a 3)), (1, .int p1)] []
  refine zr_aln C 0 dX4_spreadFrom_0 rfl rfl rfl ?_
  refine zg_X4_0 C zi_X4_spreadFrom_X4 zm_X4_spreadFrom_9 dX4_spreadFrom_1 rfl ?_
  refine zr_iln C 1 dX4_spreadFrom_4 rfl rfl rfl ?_
  refine zr_cVir (wf := (zz_wC a k z)) (st := []) C (fun l D v hv => zc_X1_layerOf N l D k (a := a) (z := z) S p1 v hv) gX4_spreadFrom_X1_layerOf rfl zd_X1_layerOf ⟨by decide, by decide⟩ ⟨by decide, by decide⟩ rfl ⟨1, 1, _, _, _, zk_C1, rfl⟩ (Nat.le_of_ble_eq_true rfl) rfl dX4_spreadFrom_5 rfl rfl h (fun x1 _ h => ?_)
  refine zr_isn C [1, 2, 0] dX4_spreadFrom_8 rfl rfl (by decide) (fun x2 => [(0, .ref (a 3)), (1, .int p1), (2, .int x2)]) h (fun _ => rfl) (fun x2 h => ?_)
  refine zr_ic (v := (0 : Int32)) C dX4_spreadFrom_9 (by decide) rfl ?_
  refine zr_isn C [1, 2, 3, 0] dX4_spreadFrom_10 rfl rfl (by decide) (fun x3 => [(0, .ref (a 3)), (1, .int p1), (2, .int x2), (3, .int x3)]) h (fun _ => rfl) (fun x3 h => ?_)
  refine zz_fix2_W (fun (v4 : Int32) (S5 : zz_St) => zz_ww X (0, 0) (zz_wC a k z S5) 11 [(0, .ref (a 3)), (1, .int p1), (2, .int x2), (3, .int v4)] []) ?_ N x3 S h
  intro rc6 hr7 v4 S5 h
  refine zr_iln C 3 dX4_spreadFrom_11 rfl rfl rfl ?_
  refine zr_ic (v := (5 : Int32)) C dX4_spreadFrom_12 (by decide) rfl ?_
  refine zr_icmp_gt (tgt := 128) C dX4_spreadFrom_13 (by decide) rfl h (fun h => ?_) (fun h => ?_)
  · exact hret S5 128 _ (0, 0) (by decide) (by decide) dX4_spreadFrom_128 h
  · refine zr_aln C 0 dX4_spreadFrom_16 rfl rfl rfl ?_
    refine zg_X4_0 C zi_X4_spreadFrom_X4 zm_X4_spreadFrom_9 dX4_spreadFrom_17 rfl ?_
    refine zr_iln C 1 dX4_spreadFrom_20 rfl rfl rfl ?_
    refine zr_iln C 3 dX4_spreadFrom_21 rfl rfl rfl ?_
    refine zr_cVir (wf := (zz_wC a k z)) (st := []) C (fun l D v hv => zc_X1_neighbour N l D k (a := a) (z := z) S5 p1 v4 v hv) gX4_spreadFrom_X1_neighbour rfl zd_X1_neighbour ⟨by decide, by decide⟩ ⟨by decide, by decide⟩ rfl ⟨1, 1, _, _, _, zk_C1, rfl⟩ (Nat.le_of_ble_eq_true rfl) rfl dX4_spreadFrom_22 rfl rfl h (fun x8 _ h => ?_)
    refine zr_is C [1, 2, 3, 4, 0] dX4_spreadFrom_25 rfl (by decide) (fun x9 => [(0, .ref (a 3)), (1, .int p1), (2, .int x2), (3, .int v4), (4, .int x9)]) h (fun _ => rfl) (fun x9 h => ?_)
    refine zr_il C 4 dX4_spreadFrom_27 rfl rfl ?_
    refine zr_ic (v := (-1 : Int32)) C dX4_spreadFrom_29 (by decide) rfl ?_
    refine zz_jn1_W h (fun (S10 : zz_St) => zz_ww X (0, 0) (zz_wC a k z S10) 122 [(0, .ref (a 3)), (1, .int p1), (2, .int x2), (3, .int v4)] []) ?_ ?_
    · intro S10 h
      refine zr_iinc (v := (1 : Int32)) C 3 [1, 2, 3, 0] dX4_spreadFrom_122 rfl (by decide) rfl (by decide) (fun x13 => [(0, .ref (a 3)), (1, .int p1), (2, .int x2), (3, .int x13)]) h (fun _ => rfl) (fun x13 h => ?_)
      refine zr_goto (tgt := 11) C dX4_spreadFrom_125 (by decide) ?_
      exact hr7 x13 S10 h
    intro j11 hj12 h
    refine zr_icmp_eq (tgt := 122) C dX4_spreadFrom_30 (by decide) rfl h (fun h => ?_) (fun h => ?_)
    · refine zr_sub [0, 1, 2, 3] rfl ?_
      exact hj12 S5 h
    · refine zr_aln C 0 dX4_spreadFrom_33 rfl rfl rfl ?_
      refine zg_X4_3 C zi_X4_spreadFrom_X4 zm_X4_spreadFrom_29 dX4_spreadFrom_34 rfl ?_
      refine zr_il C 4 dX4_spreadFrom_37 rfl rfl ?_
      refine zl_C18 C dX4_spreadFrom_39 rfl h (fun h => ?_)
      refine zr_ldc2 (v := (-1 : Int64)) C dX4_spreadFrom_40 zm_X4_spreadFrom_c75 rfl ?_
      refine zr_lcmp C dX4_spreadFrom_43 rfl ?_
      refine zr_if_ne (tgt := 50) C dX4_spreadFrom_44 (by decide) rfl h (fun h => ?_) (fun h => ?_)
      · refine zr_aln C 0 dX4_spreadFrom_50 rfl rfl rfl ?_
        refine zg_X4_2 C zi_X4_spreadFrom_X4 zm_X4_spreadFrom_25 dX4_spreadFrom_51 rfl ?_
        refine zr_iln C 1 dX4_spreadFrom_54 rfl rfl rfl ?_
        refine zl_C17 C dX4_spreadFrom_55 rfl h (fun h => ?_)
        refine zr_aln C 0 dX4_spreadFrom_56 rfl rfl rfl ?_
        refine zg_X4_1 C zi_X4_spreadFrom_X4 zm_X4_spreadFrom_15 dX4_spreadFrom_57 rfl ?_
        refine zr_iln C 2 dX4_spreadFrom_60 rfl rfl rfl ?_
        refine zr_iln C 3 dX4_spreadFrom_61 rfl rfl rfl ?_
        refine zr_cVir (wf := (zz_wC a k z)) (st := [.long (zz_gA S5 17 p1.toNatClampNeg)]) C (fun l D v hv => zc_X3_ofMove N l D k (a := a) (z := z) S5 x2 v4 v hv) gX4_spreadFrom_X3_ofMove rfl zd_X3_ofMove ⟨by decide, by decide⟩ ⟨by decide, by decide⟩ rfl ⟨2, 3, _, _, _, zk_C2, rfl⟩ (Nat.le_of_ble_eq_true rfl) rfl dX4_spreadFrom_62 rfl rfl h (fun x14 _ h => ?_)
        refine zr_i2l C dX4_spreadFrom_65 rfl ?_
        refine zr_ladd C dX4_spreadFrom_66 rfl ?_
        refine zr_aln C 0 dX4_spreadFrom_67 rfl rfl rfl ?_
        refine zg_X4_3 C zi_X4_spreadFrom_X4 zm_X4_spreadFrom_29 dX4_spreadFrom_68 rfl ?_
        refine zr_il C 4 dX4_spreadFrom_71 rfl rfl ?_
        refine zl_C18 C dX4_spreadFrom_73 rfl h (fun h => ?_)
        refine zr_ladd C dX4_spreadFrom_74 rfl ?_
        refine zr_ls C [1, 2, 3, 4, 5, 0] dX4_spreadFrom_75 rfl (by decide) (fun x15 => [(0, .ref (a 3)), (1, .int p1), (2, .int x2), (3, .int v4), (4, .int x9), (5, .long x15)]) h (fun _ => rfl) (fun x15 h => ?_)
        refine zr_aln C 0 dX4_spreadFrom_77 rfl rfl rfl ?_
        refine zg_X4_2 C zi_X4_spreadFrom_X4 zm_X4_spreadFrom_25 dX4_spreadFrom_78 rfl ?_
        refine zr_il C 4 dX4_spreadFrom_81 rfl rfl ?_
        refine zl_C17 C dX4_spreadFrom_83 rfl h (fun h => ?_)
        refine zr_ldc2 (v := (-1 : Int64)) C dX4_spreadFrom_84 zm_X4_spreadFrom_c75 rfl ?_
        refine zr_lcmp C dX4_spreadFrom_87 rfl ?_
        refine zz_jn1_W h (fun (u16 : Unit) => zz_ww X (0, 0) (zz_wC a k z S5) 104 [(0, .ref (a 3)), (1, .int p1), (2, .int x2), (3, .int v4), (4, .int x9), (5, .long x15)] []) ?_ ?_
        · intro u16 h
          refine zr_aln C 0 dX4_spreadFrom_104 rfl rfl rfl ?_
          refine zg_X4_2 C zi_X4_spreadFrom_X4 zm_X4_spreadFrom_25 dX4_spreadFrom_105 rfl ?_
          refine zr_il C 4 dX4_spreadFrom_108 rfl rfl ?_
          refine zr_ll C 5 dX4_spreadFrom_110 rfl rfl ?_
          refine zs_C17 C dX4_spreadFrom_112 rfl h (fun S19 h => ?_)
          refine zr_aln C 0 dX4_spreadFrom_113 rfl rfl rfl ?_
          refine zg_X4_4 C zi_X4_spreadFrom_X4 zm_X4_spreadFrom_37 dX4_spreadFrom_114 rfl ?_
          refine zr_il C 4 dX4_spreadFrom_117 rfl rfl ?_
          refine zr_cVv (wf := (zz_wC a k z)) (st := []) C (fun l D u hu => zc_X0_put N l D k (a := a) (z := z) S19 x9 u hu) gX4_spreadFrom_X0_put rfl zd_X0_put ⟨by decide, by decide⟩ ⟨by decide, by decide⟩ rfl ⟨5, 0, _, _, _, zk_C5, rfl⟩ (Nat.le_of_ble_eq_true rfl) rfl dX4_spreadFrom_119 rfl rfl h (fun S20 _ h => ?_)
          refine zr_sub [0, 1, 2, 3] rfl ?_
          exact hj12 S20 h
        intro j17 hj18 h
        refine zr_if_eq (tgt := 104) C dX4_spreadFrom_88 (by decide) rfl h (fun h => ?_) (fun h => ?_)
        · exact hj18 () h
        · refine zr_ll C 5 dX4_spreadFrom_91 rfl rfl ?_
          refine zr_aln C 0 dX4_spreadFrom_93 rfl rfl rfl ?_
          refine zg_X4_2 C zi_X4_spreadFrom_X4 zm_X4_spreadFrom_25 dX4_spreadFrom_94 rfl ?_
          refine zr_il C 4 dX4_spreadFrom_97 rfl rfl ?_
          refine zl_C17 C dX4_spreadFrom_99 rfl h (fun h => ?_)
          refine zr_lcmp C dX4_spreadFrom_100 rfl ?_
          refine zr_if_ge (tgt := 122) C dX4_spreadFrom_101 (by decide) rfl h (fun h => ?_) (fun h => ?_)
          · refine zr_sub [0, 1, 2, 3] rfl ?_
            exact hj12 S5 h
          · exact hj18 () h
      · refine zr_goto (tgt := 122) C dX4_spreadFrom_47 (by decide) ?_
        refine zr_sub [0, 1, 2, 3] rfl ?_
        exact hj12 S5 h

def zf_X4_reachesPin (N : Nat) (z : Nat) (S : zz_St) (p1 : Int32) (p3 : Int32) : Option (Int32 × zz_St) := zz_b1 (zf_X4_setTolls N z S p1 p3) (fun S1 => zz_b1 (zf_X4_startFrom N z S1) (fun S2 => zz_let ((0 : Int32)) (fun x3 => zz_fix2 (fun rc6 (v4 : Int32) (S5 : zz_St) => zz_jn1 (fun (u8 : Unit) => some ((0 : Int32), S5)) (fun j9 => if (zz_gi S5 6) ≤ v4 then (j9 ()) else (if (zz_gi S5 8) ≤ 0 then (j9 ()) else (zz_b2 (zf_X0_takeNearest N z S5) (fun x12 S11 => zz_let x12 (fun x13 => zz_gd (zz_in x13 z) (zz_jn1 (fun (u14 : Unit) => zz_b1 (zf_X4_spreadFrom N z S11 x13) (fun S17 => zz_let (v4 + (1 : Int32)) (fun x18 => rc6 x18 S17))) (fun j15 => if (zz_ga S11 10 x13.toNatClampNeg) = p1 then (zz_gd (zz_in x13 z) (if (lg_cmp (zz_gA S11 17 x13.toNatClampNeg) ((0 : Int64))) ≤ 0 then (j15 ()) else (some ((1 : Int32), S11)))) else (j15 ()))))))))) N x3 S2)))
theorem zi_X4_reachesPin_X4 : ∀ w ∈ wsX40, w ∈ wsX4_reachesPin := by decide +kernel
theorem zm_X4_reachesPin_9 : Cond.fieldLink RX4 9 "GridRipUp$Search" "grid" "LGridRipUp$Grid;" ∈ wsX4_reachesPin := by decide +kernel
theorem zi_X4_reachesPin_X1 : ∀ w ∈ wsX10, w ∈ wsX4_reachesPin := by decide +kernel
theorem zm_X4_reachesPin_19 : Cond.fieldLink RX4 19 "GridRipUp$Grid" "cells" "I" ∈ wsX4_reachesPin := by decide +kernel
theorem zm_X4_reachesPin_37 : Cond.fieldLink RX4 37 "GridRipUp$Search" "frontier" "LGridRipUp$Frontier;" ∈ wsX4_reachesPin := by decide +kernel
theorem zi_X4_reachesPin_X0 : ∀ w ∈ wsX00, w ∈ wsX4_reachesPin := by decide +kernel
theorem zm_X4_reachesPin_49 : Cond.fieldLink RX4 49 "GridRipUp$Frontier" "size" "I" ∈ wsX4_reachesPin := by decide +kernel
theorem zm_X4_reachesPin_56 : Cond.fieldLink RX4 56 "GridRipUp$Grid" "holder" "[I" ∈ wsX4_reachesPin := by decide +kernel
theorem zm_X4_reachesPin_25 : Cond.fieldLink RX4 25 "GridRipUp$Search" "distance" "[J" ∈ wsX4_reachesPin := by decide +kernel
theorem zd_X4_reachesPin : yX4_reachesPin.cls = RX4 ∧ yX4_reachesPin.cls ≠ "java/lang/invoke/MethodHandle" ∧ yX4_reachesPin.cls ≠ "java/lang/invoke/VarHandle" ∧ (parseMethodDescriptor yX4_reachesPin.desc).map (fun d => d.parameters.length) = some 3 := by decide +kernel
set_option maxHeartbeats 4000000 in
set_option maxRecDepth 100000 in
theorem zc_X4_reachesPin (N : Nat) (l : Launch) (D : va_G) (k : Nat → ClassId) {a : Nat → Nat} {z : Nat} (S : zz_St) (p1 : Int32) (p3 : Int32)  (v : Int32) (u : zz_St) (h : zf_X4_reachesPin N z S p1 p3 = some (v, u)) : zz_MI l yX4_reachesPin wsX4_reachesPin ({ frames := 3, cells := 0, slots := 0, locals := 72 } : Room) D k (zz_wC a k z) [.ref (a 3), .int p1, .ref (a 4), .int p3] S (v, u) := by
  refine zz_metI (cc := cX4_reachesPin) (nL := 6) (ty := .boolean) (by decide) rfl (Nat.le_of_ble_eq_true rfl) ?_
  intro X C hret
  have C : zz_ok X cX4_reachesPin RX4 wsX4_reachesPin k 6 ({ frames := 3, cells := 0, slots := 0, locals := 72 } : Room) := C
  unfold zf_X4_reachesPin at h
  show zz_ww X (0, 0) (zz_wC a k z S) 0 [(0, .ref (a 3)), (1, .int p1), (2, .ref (a 4)), (3, .int p3)] []
  refine zr_aln C 0 dX4_reachesPin_0 rfl rfl rfl ?_
  refine zr_iln C 1 dX4_reachesPin_1 rfl rfl rfl ?_
  refine zr_iln C 3 dX4_reachesPin_2 rfl rfl rfl ?_
  refine zr_cVv (wf := (zz_wC a k z)) (st := []) C (fun l D u hu => zc_X4_setTolls N l D k (a := a) (z := z) S p1 p3 u hu) gX4_reachesPin_X4_setTolls rfl zd_X4_setTolls ⟨by decide, by decide⟩ ⟨by decide, by decide⟩ rfl ⟨3, 4, _, _, _, zk_C3, rfl⟩ (Nat.le_of_ble_eq_true rfl) rfl dX4_reachesPin_3 rfl rfl h (fun S1 _ h => ?_)
  refine zr_aln C 0 dX4_reachesPin_6 rfl rfl rfl ?_
  refine zr_aln C 2 dX4_reachesPin_7 rfl rfl rfl ?_
  refine zr_cVv (wf := (zz_wC a k z)) (st := []) C (fun l D u hu => zc_X4_startFrom N l D k (a := a) (z := z) S1  u hu) gX4_reachesPin_X4_startFrom rfl zd_X4_startFrom ⟨by decide, by decide⟩ ⟨by decide, by decide⟩ rfl ⟨3, 4, _, _, _, zk_C3, rfl⟩ (Nat.le_of_ble_eq_true rfl) rfl dX4_reachesPin_8 rfl rfl h (fun S2 _ h => ?_)
  refine zr_ic (v := (0 : Int32)) C dX4_reachesPin_11 (by decide) rfl ?_
  refine zr_is C [1, 2, 3, 4, 0] dX4_reachesPin_12 rfl (by decide) (fun x3 => [(0, .ref (a 3)), (1, .int p1), (2, .ref (a 4)), (3, .int p3), (4, .int x3)]) h (fun _ => rfl) (fun x3 h => ?_)
  refine zr_sub [0, 1, 4] rfl ?_
  refine zz_fix2_W (fun (v4 : Int32) (S5 : zz_St) => zz_ww X (0, 0) (zz_wC a k z S5) 14 [(0, .ref (a 3)), (1, .int p1), (4, .int v4)] []) ?_ N x3 S2 h
  intro rc6 hr7 v4 S5 h
  refine zr_il C 2 dX4_reachesPin_14 rfl rfl ?_
  refine zr_aln C 0 dX4_reachesPin_16 rfl rfl rfl ?_
  refine zg_X4_0 C zi_X4_reachesPin_X4 zm_X4_reachesPin_9 dX4_reachesPin_17 rfl ?_
  refine zg_X1_4 C zi_X4_reachesPin_X1 zm_X4_reachesPin_19 dX4_reachesPin_20 rfl ?_
  refine zz_jn1_W h (fun (u8 : Unit) => zz_ww X (0, 0) (zz_wC a k z S5) 85 [] []) ?_ ?_
  · intro u8 h
    refine zr_ic (v := (0 : Int32)) C dX4_reachesPin_85 (by decide) rfl ?_
    exact hret ((0 : Int32)) S5 86 _ (0, 0) (by decide) (by decide) dX4_reachesPin_86 rfl h
  intro j9 hj10 h
  refine zr_icmp_ge (tgt := 85) C dX4_reachesPin_23 (by decide) rfl h (fun h => ?_) (fun h => ?_)
  · refine zr_sub [] rfl ?_
    exact hj10 () h
  · refine zr_aln C 0 dX4_reachesPin_26 rfl rfl rfl ?_
    refine zg_X4_4 C zi_X4_reachesPin_X4 zm_X4_reachesPin_37 dX4_reachesPin_27 rfl ?_
    refine zg_X0_3 C zi_X4_reachesPin_X0 zm_X4_reachesPin_49 dX4_reachesPin_30 rfl ?_
    refine zr_if_le (tgt := 85) C dX4_reachesPin_33 (by decide) rfl h (fun h => ?_) (fun h => ?_)
    · refine zr_sub [] rfl ?_
      exact hj10 () h
    · refine zr_aln C 0 dX4_reachesPin_36 rfl rfl rfl ?_
      refine zg_X4_4 C zi_X4_reachesPin_X4 zm_X4_reachesPin_37 dX4_reachesPin_37 rfl ?_
      refine zr_cVi (wf := (zz_wC a k z)) (st := []) C (fun l D v u hu => zc_X0_takeNearest N l D k (a := a) (z := z) S5  v u hu) gX4_reachesPin_X0_takeNearest rfl zd_X0_takeNearest ⟨by decide, by decide⟩ ⟨by decide, by decide⟩ rfl ⟨5, 0, _, _, _, zk_C5, rfl⟩ (Nat.le_of_ble_eq_true rfl) rfl dX4_reachesPin_40 rfl rfl h (fun x12 S11 _ h => ?_)
      refine zr_is C [1, 2, 3, 0] dX4_reachesPin_43 rfl (by decide) (fun x13 => [(0, .ref (a 3)), (1, .int p1), (4, .int v4), (5, .int x13)]) h (fun _ => rfl) (fun x13 h => ?_)
      refine zr_aln C 0 dX4_reachesPin_45 rfl rfl rfl ?_
      refine zg_X4_0 C zi_X4_reachesPin_X4 zm_X4_reachesPin_9 dX4_reachesPin_46 rfl ?_
      refine zg_X1_7 C zi_X4_reachesPin_X1 zm_X4_reachesPin_56 dX4_reachesPin_49 rfl ?_
      refine zr_il C 3 dX4_reachesPin_52 rfl rfl ?_
      refine zl_C10 C dX4_reachesPin_54 rfl h (fun h => ?_)
      refine zr_iln C 1 dX4_reachesPin_55 rfl rfl rfl ?_
      refine zz_jn1_W h (fun (u14 : Unit) => zz_ww X (0, 0) (zz_wC a k z S11) 73 [(0, .ref (a 3)), (1, .int p1), (4, .int v4), (5, .int x13)] []) ?_ ?_
      · intro u14 h
        refine zr_aln C 0 dX4_reachesPin_73 rfl rfl rfl ?_
        refine zr_il C 3 dX4_reachesPin_74 rfl rfl ?_
        refine zr_cVv (wf := (zz_wC a k z)) (st := []) C (fun l D u hu => zc_X4_spreadFrom N l D k (a := a) (z := z) S11 x13 u hu) gX4_reachesPin_X4_spreadFrom rfl zd_X4_spreadFrom ⟨by decide, by decide⟩ ⟨by decide, by decide⟩ rfl ⟨3, 4, _, _, _, zk_C3, rfl⟩ (Nat.le_of_ble_eq_true rfl) rfl dX4_reachesPin_76 rfl rfl h (fun S17 _ h => ?_)
        refine zr_iinc (v := (1 : Int32)) C 2 [1, 2, 0, 3] dX4_reachesPin_79 rfl (by decide) rfl (by decide) (fun x18 => [(0, .ref (a 3)), (1, .int p1), (4, .int x18), (5, .int x13)]) h (fun _ => rfl) (fun x18 h => ?_)
        refine zr_goto (tgt := 14) C dX4_reachesPin_82 (by decide) ?_
        refine zr_sub [0, 1, 2] rfl ?_
        exact hr7 x18 S17 h
      intro j15 hj16 h
      refine zr_icmp_ne (tgt := 73) C dX4_reachesPin_56 (by decide) rfl h (fun h => ?_) (fun h => ?_)
      · exact hj16 () h
      · refine zr_aln C 0 dX4_reachesPin_59 rfl rfl rfl ?_
        refine zg_X4_2 C zi_X4_reachesPin_X4 zm_X4_reachesPin_25 dX4_reachesPin_60 rfl ?_
        refine zr_il C 3 dX4_reachesPin_63 rfl rfl ?_
        refine zl_C17 C dX4_reachesPin_65 rfl h (fun h => ?_)
        refine zr_lc (v := 0) C dX4_reachesPin_66 (by decide) rfl ?_
        refine zr_lcmp C dX4_reachesPin_67 rfl ?_
        refine zr_if_le (tgt := 73) C dX4_reachesPin_68 (by decide) rfl h (fun h => ?_) (fun h => ?_)
        · exact hj16 () h
        · refine zr_ic (v := (1 : Int32)) C dX4_reachesPin_71 (by decide) rfl ?_
          exact hret ((1 : Int32)) S11 72 _ (0, 0) (by decide) (by decide) dX4_reachesPin_72 rfl h

def zf_X4_nearestPin (N : Nat) (z : Nat) (S : zz_St) (q1 : Nat) : Option Int32 := zz_let ((-1 : Int32)) (fun x1 => zz_let ((0 : Int32)) (fun x2 => zz_fix2 (fun rc5 (v3 : Int32) (v4 : Int32) => if (zz_ga S 21 q1) ≤ v4 then (some (v3)) else (zz_gd (zz_in v4 5) (zz_let (zz_gp S q1 v4.toNatClampNeg) (fun x7 => zz_gd (zz_in x7 z) (zz_jn1 (fun (v8 : Int32) => zz_let (v4 + (1 : Int32)) (fun x11 => rc5 v8 x11)) (fun j9 => if (lg_cmp (zz_gA S 17 x7.toNatClampNeg) ((0 : Int64))) ≤ 0 then (j9 v3) else (zz_jn1 (fun (u12 : Unit) => zz_let x7 (fun x15 => j9 x15)) (fun j13 => if v3 = ((-1 : Int32)) then (j13 ()) else (zz_gd (zz_in x7 z) (zz_gd (zz_in v3 z) (if 0 ≤ (lg_cmp (zz_gA S 17 x7.toNatClampNeg) (zz_gA S 17 v3.toNatClampNeg)) then (j9 v3) else (j13 ())))))))))))) N x1 x2))
theorem zi_X4_nearestPin_X2 : ∀ w ∈ wsX20, w ∈ wsX4_nearestPin := by decide +kernel
theorem zm_X4_nearestPin_119 : Cond.fieldLink RX4 119 "GridRipUp$Net" "pinCount" "I" ∈ wsX4_nearestPin := by decide +kernel
theorem zm_X4_nearestPin_124 : Cond.fieldLink RX4 124 "GridRipUp$Net" "pins" "[I" ∈ wsX4_nearestPin := by decide +kernel
theorem zi_X4_nearestPin_X4 : ∀ w ∈ wsX40, w ∈ wsX4_nearestPin := by decide +kernel
theorem zm_X4_nearestPin_25 : Cond.fieldLink RX4 25 "GridRipUp$Search" "distance" "[J" ∈ wsX4_nearestPin := by decide +kernel
theorem zd_X4_nearestPin : yX4_nearestPin.cls = RX4 ∧ yX4_nearestPin.cls ≠ "java/lang/invoke/MethodHandle" ∧ yX4_nearestPin.cls ≠ "java/lang/invoke/VarHandle" ∧ (parseMethodDescriptor yX4_nearestPin.desc).map (fun d => d.parameters.length) = some 1 := by decide +kernel
set_option maxHeartbeats 4000000 in
set_option maxRecDepth 100000 in
theorem zc_X4_nearestPin (N : Nat) (l : Launch) (D : va_G) (k : Nat → ClassId) {a : Nat → Nat} {z : Nat} (S : zz_St) (q1 : Nat) (hq1 : q1 < 12) (v : Int32) (h : zf_X4_nearestPin N z S q1 = some v) : zz_MI l yX4_nearestPin wsX4_nearestPin ({ frames := 0, cells := 0, slots := 0, locals := 0 } : Room) D k (zz_wC a k z) [.ref (a 3), .ref (a (21 + q1))] S (v, S) := by
  refine zz_metI (cc := cX4_nearestPin) (nL := 5) (ty := .int) (by decide) rfl (Nat.le_of_ble_eq_true rfl) ?_
  intro X C hret
  have C : zz_ok X cX4_nearestPin RX4 wsX4_nearestPin k 5 ({ frames := 0, cells := 0, slots := 0, locals := 0 } : Room) := C
  unfold zf_X4_nearestPin at h
  show zz_ww X (0, 0) (zz_wC a k z S) 0 [(0, .ref (a 3)), (1, .ref (a (21 + q1)))] []
  refine zr_ic (v := (-1 : Int32)) C dX4_nearestPin_0 (by decide) rfl ?_
  refine zr_isn C [1, 2, 0] dX4_nearestPin_1 rfl rfl (by decide) (fun x1 => [(0, .ref (a 3)), (1, .ref (a (21 + q1))), (2, .int x1)]) h (fun _ => rfl) (fun x1 h => ?_)
  refine zr_ic (v := (0 : Int32)) C dX4_nearestPin_2 (by decide) rfl ?_
  refine zr_isn C [1, 2, 3, 0] dX4_nearestPin_3 rfl rfl (by decide) (fun x2 => [(0, .ref (a 3)), (1, .ref (a (21 + q1))), (2, .int x1), (3, .int x2)]) h (fun _ => rfl) (fun x2 h => ?_)
  refine zz_fix2_W (fun (v3 : Int32) (v4 : Int32) => zz_ww X (0, 0) (zz_wC a k z S) 4 [(0, .ref (a 3)), (1, .ref (a (21 + q1))), (2, .int v3), (3, .int v4)] []) ?_ N x1 x2 h
  intro rc5 hr6 v3 v4 h
  refine zr_iln C 3 dX4_nearestPin_4 rfl rfl rfl ?_
  refine zr_aln C 1 dX4_nearestPin_5 rfl rfl rfl ?_
  refine zg_X2_1 C hq1 zi_X4_nearestPin_X2 zm_X4_nearestPin_119 dX4_nearestPin_6 rfl ?_
  refine zr_icmp_ge (tgt := 63) C dX4_nearestPin_9 (by decide) rfl h (fun h => ?_) (fun h => ?_)
  · refine zr_iln C 2 dX4_nearestPin_63 rfl rfl rfl ?_
    exact hret v3 S 64 _ (0, 0) (by decide) (by decide) dX4_nearestPin_64 rfl (zz_ro h)
  · refine zr_aln C 1 dX4_nearestPin_12 rfl rfl rfl ?_
    refine zg_X2_0 C hq1 zi_X4_nearestPin_X2 zm_X4_nearestPin_124 dX4_nearestPin_13 rfl ?_
    refine zr_iln C 3 dX4_nearestPin_16 rfl rfl rfl ?_
    refine zl_Cp C hq1 dX4_nearestPin_17 rfl h (fun h => ?_)
    refine zr_is C [1, 2, 3, 4, 0] dX4_nearestPin_18 rfl (by decide) (fun x7 => [(0, .ref (a 3)), (1, .ref (a (21 + q1))), (2, .int v3), (3, .int v4), (4, .int x7)]) h (fun _ => rfl) (fun x7 h => ?_)
    refine zr_aln C 0 dX4_nearestPin_20 rfl rfl rfl ?_
    refine zg_X4_2 C zi_X4_nearestPin_X4 zm_X4_nearestPin_25 dX4_nearestPin_21 rfl ?_
    refine zr_il C 4 dX4_nearestPin_24 rfl rfl ?_
    refine zl_C17 C dX4_nearestPin_26 rfl h (fun h => ?_)
    refine zr_lc (v := 0) C dX4_nearestPin_27 (by decide) rfl ?_
    refine zr_lcmp C dX4_nearestPin_28 rfl ?_
    refine zz_jn1_W h (fun (v8 : Int32) => zz_ww X (0, 0) (zz_wC a k z S) 57 [(0, .ref (a 3)), (1, .ref (a (21 + q1))), (2, .int v8), (3, .int v4)] []) ?_ ?_
    · intro v8 h
      refine zr_iinc (v := (1 : Int32)) C 3 [1, 2, 3, 0] dX4_nearestPin_57 rfl (by decide) rfl (by decide) (fun x11 => [(0, .ref (a 3)), (1, .ref (a (21 + q1))), (2, .int v8), (3, .int x11)]) h (fun _ => rfl) (fun x11 h => ?_)
      refine zr_goto (tgt := 4) C dX4_nearestPin_60 (by decide) ?_
      exact hr6 v8 x11 h
    intro j9 hj10 h
    refine zr_if_le (tgt := 57) C dX4_nearestPin_29 (by decide) rfl h (fun h => ?_) (fun h => ?_)
    · refine zr_sub [0, 1, 2, 3] rfl ?_
      exact hj10 v3 h
    · refine zr_iln C 2 dX4_nearestPin_32 rfl rfl rfl ?_
      refine zr_ic (v := (-1 : Int32)) C dX4_nearestPin_33 (by decide) rfl ?_
      refine zz_jn1_W h (fun (u12 : Unit) => zz_ww X (0, 0) (zz_wC a k z S) 54 [(0, .ref (a 3)), (1, .ref (a (21 + q1))), (3, .int v4), (4, .int x7)] []) ?_ ?_
      · intro u12 h
        refine zr_il C 3 dX4_nearestPin_54 rfl rfl ?_
        refine zr_isn C [1, 2, 0, 3, 4] dX4_nearestPin_56 rfl rfl (by decide) (fun x15 => [(0, .ref (a 3)), (1, .ref (a (21 + q1))), (2, .int x15), (3, .int v4), (4, .int x7)]) h (fun _ => rfl) (fun x15 h => ?_)
        refine zr_sub [0, 1, 2, 3] rfl ?_
        exact hj10 x15 h
      intro j13 hj14 h
      refine zr_icmp_eq (tgt := 54) C dX4_nearestPin_34 (by decide) rfl h (fun h => ?_) (fun h => ?_)
      · refine zr_sub [0, 1, 3, 4] rfl ?_
        exact hj14 () h
      · refine zr_aln C 0 dX4_nearestPin_37 rfl rfl rfl ?_
        refine zg_X4_2 C zi_X4_nearestPin_X4 zm_X4_nearestPin_25 dX4_nearestPin_38 rfl ?_
        refine zr_il C 4 dX4_nearestPin_41 rfl rfl ?_
        refine zl_C17 C dX4_nearestPin_43 rfl h (fun h => ?_)
        refine zr_aln C 0 dX4_nearestPin_44 rfl rfl rfl ?_
        refine zg_X4_2 C zi_X4_nearestPin_X4 zm_X4_nearestPin_25 dX4_nearestPin_45 rfl ?_
        refine zr_iln C 2 dX4_nearestPin_48 rfl rfl rfl ?_
        refine zl_C17 C dX4_nearestPin_49 rfl h (fun h => ?_)
        refine zr_lcmp C dX4_nearestPin_50 rfl ?_
        refine zr_if_ge (tgt := 57) C dX4_nearestPin_51 (by decide) rfl h (fun h => ?_) (fun h => ?_)
        · refine zr_sub [0, 1, 2, 3] rfl ?_
          exact hj10 v3 h
        · refine zr_sub [0, 1, 3, 4] rfl ?_
          exact hj14 () h

def zf_X4_stepBack (N : Nat) (z : Nat) (S : zz_St) (p1 : Int32) : Option Int32 := zz_b1 (zf_X1_layerOf N z S p1) (fun x1 => zz_let x1 (fun x2 => zz_let ((0 : Int32)) (fun x3 => zz_fix1 (fun rc5 (v4 : Int32) => if ((5 : Int32)) < v4 then (some ((-1 : Int32))) else (zz_b1 (zf_X1_neighbour N z S p1 v4) (fun x7 => zz_let x7 (fun x8 => zz_jn1 (fun (u9 : Unit) => zz_let (v4 + (1 : Int32)) (fun x12 => rc5 x12)) (fun j10 => if x8 = ((-1 : Int32)) then (j10 ()) else (zz_gd (zz_in x8 z) (if (lg_cmp (zz_gA S 17 x8.toNatClampNeg) ((-1 : Int64))) = 0 then (j10 ()) else (zz_gd (zz_in x8 z) (zz_b1 (zf_X3_ofMove N z S x2 v4) (fun x13 => zz_gd (zz_in p1 z) (zz_gd (zz_in p1 z) (if (lg_cmp (((zz_gA S 17 x8.toNatClampNeg) + x13.toInt64) + (zz_gA S 18 p1.toNatClampNeg)) (zz_gA S 17 p1.toNatClampNeg)) = 0 then (some (x8)) else (j10 ()))))))))))))) N x3)))
theorem zi_X4_stepBack_X4 : ∀ w ∈ wsX40, w ∈ wsX4_stepBack := by decide +kernel
theorem zm_X4_stepBack_9 : Cond.fieldLink RX4 9 "GridRipUp$Search" "grid" "LGridRipUp$Grid;" ∈ wsX4_stepBack := by decide +kernel
theorem zm_X4_stepBack_25 : Cond.fieldLink RX4 25 "GridRipUp$Search" "distance" "[J" ∈ wsX4_stepBack := by decide +kernel
theorem zm_X4_stepBack_c75 : Jvm.Cond.constantLong RX4 75 (-1) ∈ wsX4_stepBack := by decide +kernel
theorem zm_X4_stepBack_15 : Cond.fieldLink RX4 15 "GridRipUp$Search" "prices" "LGridRipUp$Prices;" ∈ wsX4_stepBack := by decide +kernel
theorem zm_X4_stepBack_29 : Cond.fieldLink RX4 29 "GridRipUp$Search" "toll" "[J" ∈ wsX4_stepBack := by decide +kernel
theorem zd_X4_stepBack : yX4_stepBack.cls = RX4 ∧ yX4_stepBack.cls ≠ "java/lang/invoke/MethodHandle" ∧ yX4_stepBack.cls ≠ "java/lang/invoke/VarHandle" ∧ (parseMethodDescriptor yX4_stepBack.desc).map (fun d => d.parameters.length) = some 1 := by decide +kernel
set_option maxHeartbeats 4000000 in
set_option maxRecDepth 100000 in
theorem zc_X4_stepBack (N : Nat) (l : Launch) (D : va_G) (k : Nat → ClassId) {a : Nat → Nat} {z : Nat} (S : zz_St) (p1 : Int32)  (v : Int32) (h : zf_X4_stepBack N z S p1 = some v) : zz_MI l yX4_stepBack wsX4_stepBack ({ frames := 1, cells := 0, slots := 0, locals := 24 } : Room) D k (zz_wC a k z) [.ref (a 3), .int p1] S (v, S) := by
  refine zz_metI (cc := cX4_stepBack) (nL := 5) (ty := .int) (by decide) rfl (Nat.le_of_ble_eq_true rfl) ?_
  intro X C hret
  have C : zz_ok X cX4_stepBack RX4 wsX4_stepBack k 5 ({ frames := 1, cells := 0, slots := 0, locals := 24 } : Room) := C
  unfold zf_X4_stepBack at h
  show zz_ww X (0, 0) (zz_wC a k z S) 0 [(0, .ref (a 3)), (1, .int p1)] []
  refine zr_aln C 0 dX4_stepBack_0 rfl rfl rfl ?_
  refine zg_X4_0 C zi_X4_stepBack_X4 zm_X4_stepBack_9 dX4_stepBack_1 rfl ?_
  refine zr_iln C 1 dX4_stepBack_4 rfl rfl rfl ?_
  refine zr_cVir (wf := (zz_wC a k z)) (st := []) C (fun l D v hv => zc_X1_layerOf N l D k (a := a) (z := z) S p1 v hv) gX4_stepBack_X1_layerOf rfl zd_X1_layerOf ⟨by decide, by decide⟩ ⟨by decide, by decide⟩ rfl ⟨1, 1, _, _, _, zk_C1, rfl⟩ (Nat.le_of_ble_eq_true rfl) rfl dX4_stepBack_5 rfl rfl h (fun x1 _ h => ?_)
  refine zr_isn C [1, 2, 0] dX4_stepBack_8 rfl rfl (by decide) (fun x2 => [(0, .ref (a 3)), (1, .int p1), (2, .int x2)]) h (fun _ => rfl) (fun x2 h => ?_)
  refine zr_ic (v := (0 : Int32)) C dX4_stepBack_9 (by decide) rfl ?_
  refine zr_isn C [1, 2, 3, 0] dX4_stepBack_10 rfl rfl (by decide) (fun x3 => [(0, .ref (a 3)), (1, .int p1), (2, .int x2), (3, .int x3)]) h (fun _ => rfl) (fun x3 h => ?_)
  refine zz_fix1_W (fun (v4 : Int32) => zz_ww X (0, 0) (zz_wC a k z S) 11 [(0, .ref (a 3)), (1, .int p1), (2, .int x2), (3, .int v4)] []) ?_ N x3 h
  intro rc5 hr6 v4 h
  refine zr_iln C 3 dX4_stepBack_11 rfl rfl rfl ?_
  refine zr_ic (v := (5 : Int32)) C dX4_stepBack_12 (by decide) rfl ?_
  refine zr_icmp_gt (tgt := 94) C dX4_stepBack_13 (by decide) rfl h (fun h => ?_) (fun h => ?_)
  · refine zr_ic (v := (-1 : Int32)) C dX4_stepBack_94 (by decide) rfl ?_
    exact hret ((-1 : Int32)) S 95 _ (0, 0) (by decide) (by decide) dX4_stepBack_95 rfl (zz_ro h)
  · refine zr_aln C 0 dX4_stepBack_16 rfl rfl rfl ?_
    refine zg_X4_0 C zi_X4_stepBack_X4 zm_X4_stepBack_9 dX4_stepBack_17 rfl ?_
    refine zr_iln C 1 dX4_stepBack_20 rfl rfl rfl ?_
    refine zr_iln C 3 dX4_stepBack_21 rfl rfl rfl ?_
    refine zr_cVir (wf := (zz_wC a k z)) (st := []) C (fun l D v hv => zc_X1_neighbour N l D k (a := a) (z := z) S p1 v4 v hv) gX4_stepBack_X1_neighbour rfl zd_X1_neighbour ⟨by decide, by decide⟩ ⟨by decide, by decide⟩ rfl ⟨1, 1, _, _, _, zk_C1, rfl⟩ (Nat.le_of_ble_eq_true rfl) rfl dX4_stepBack_22 rfl rfl h (fun x7 _ h => ?_)
    refine zr_is C [1, 2, 3, 4, 0] dX4_stepBack_25 rfl (by decide) (fun x8 => [(0, .ref (a 3)), (1, .int p1), (2, .int x2), (3, .int v4), (4, .int x8)]) h (fun _ => rfl) (fun x8 h => ?_)
    refine zr_il C 4 dX4_stepBack_27 rfl rfl ?_
    refine zr_ic (v := (-1 : Int32)) C dX4_stepBack_29 (by decide) rfl ?_
    refine zz_jn1_W h (fun (u9 : Unit) => zz_ww X (0, 0) (zz_wC a k z S) 88 [(0, .ref (a 3)), (1, .int p1), (2, .int x2), (3, .int v4)] []) ?_ ?_
    · intro u9 h
      refine zr_iinc (v := (1 : Int32)) C 3 [1, 2, 3, 0] dX4_stepBack_88 rfl (by decide) rfl (by decide) (fun x12 => [(0, .ref (a 3)), (1, .int p1), (2, .int x2), (3, .int x12)]) h (fun _ => rfl) (fun x12 h => ?_)
      refine zr_goto (tgt := 11) C dX4_stepBack_91 (by decide) ?_
      exact hr6 x12 h
    intro j10 hj11 h
    refine zr_icmp_eq (tgt := 88) C dX4_stepBack_30 (by decide) rfl h (fun h => ?_) (fun h => ?_)
    · refine zr_sub [0, 1, 2, 3] rfl ?_
      exact hj11 () h
    · refine zr_aln C 0 dX4_stepBack_33 rfl rfl rfl ?_
      refine zg_X4_2 C zi_X4_stepBack_X4 zm_X4_stepBack_25 dX4_stepBack_34 rfl ?_
      refine zr_il C 4 dX4_stepBack_37 rfl rfl ?_
      refine zl_C17 C dX4_stepBack_39 rfl h (fun h => ?_)
      refine zr_ldc2 (v := (-1 : Int64)) C dX4_stepBack_40 zm_X4_stepBack_c75 rfl ?_
      refine zr_lcmp C dX4_stepBack_43 rfl ?_
      refine zr_if_ne (tgt := 50) C dX4_stepBack_44 (by decide) rfl h (fun h => ?_) (fun h => ?_)
      · refine zr_aln C 0 dX4_stepBack_50 rfl rfl rfl ?_
        refine zg_X4_2 C zi_X4_stepBack_X4 zm_X4_stepBack_25 dX4_stepBack_51 rfl ?_
        refine zr_il C 4 dX4_stepBack_54 rfl rfl ?_
        refine zl_C17 C dX4_stepBack_56 rfl h (fun h => ?_)
        refine zr_aln C 0 dX4_stepBack_57 rfl rfl rfl ?_
        refine zg_X4_1 C zi_X4_stepBack_X4 zm_X4_stepBack_15 dX4_stepBack_58 rfl ?_
        refine zr_iln C 2 dX4_stepBack_61 rfl rfl rfl ?_
        refine zr_iln C 3 dX4_stepBack_62 rfl rfl rfl ?_
        refine zr_cVir (wf := (zz_wC a k z)) (st := [.long (zz_gA S 17 x8.toNatClampNeg)]) C (fun l D v hv => zc_X3_ofMove N l D k (a := a) (z := z) S x2 v4 v hv) gX4_stepBack_X3_ofMove rfl zd_X3_ofMove ⟨by decide, by decide⟩ ⟨by decide, by decide⟩ rfl ⟨2, 3, _, _, _, zk_C2, rfl⟩ (Nat.le_of_ble_eq_true rfl) rfl dX4_stepBack_63 rfl rfl h (fun x13 _ h => ?_)
        refine zr_i2l C dX4_stepBack_66 rfl ?_
        refine zr_ladd C dX4_stepBack_67 rfl ?_
        refine zr_aln C 0 dX4_stepBack_68 rfl rfl rfl ?_
        refine zg_X4_3 C zi_X4_stepBack_X4 zm_X4_stepBack_29 dX4_stepBack_69 rfl ?_
        refine zr_iln C 1 dX4_stepBack_72 rfl rfl rfl ?_
        refine zl_C18 C dX4_stepBack_73 rfl h (fun h => ?_)
        refine zr_ladd C dX4_stepBack_74 rfl ?_
        refine zr_aln C 0 dX4_stepBack_75 rfl rfl rfl ?_
        refine zg_X4_2 C zi_X4_stepBack_X4 zm_X4_stepBack_25 dX4_stepBack_76 rfl ?_
        refine zr_iln C 1 dX4_stepBack_79 rfl rfl rfl ?_
        refine zl_C17 C dX4_stepBack_80 rfl h (fun h => ?_)
        refine zr_lcmp C dX4_stepBack_81 rfl ?_
        refine zr_if_ne (tgt := 88) C dX4_stepBack_82 (by decide) rfl h (fun h => ?_) (fun h => ?_)
        · refine zr_sub [0, 1, 2, 3] rfl ?_
          exact hj11 () h
        · refine zr_il C 4 dX4_stepBack_85 rfl rfl ?_
          exact hret x8 S 87 _ (0, 0) (by decide) (by decide) dX4_stepBack_87 rfl (zz_ro h)
      · refine zr_goto (tgt := 88) C dX4_stepBack_47 (by decide) ?_
        refine zr_sub [0, 1, 2, 3] rfl ?_
        exact hj11 () h

def zf_X4_holdersAround (N : Nat) (z : Nat) (S : zz_St) (p1 : Int32) : Option Int32 := zz_let ((0 : Int32)) (fun x1 => zz_let ((0 : Int32)) (fun x2 => zz_fix2 (fun rc5 (v3 : Int32) (v4 : Int32) => if (zz_gi S 6) ≤ v4 then (some (v3)) else (zz_let ((0 : Int32)) (fun x7 => zz_fix2 (fun rc10 (v8 : Int32) (v9 : Int32) => zz_jn1 (fun (u12 : Unit) => zz_let (v4 + (1 : Int32)) (fun x15 => rc5 v8 x15)) (fun j13 => if ((5 : Int32)) < v9 then (j13 ()) else (zz_gd (zz_in v4 z) (if (lg_cmp (zz_gA S 17 v4.toNatClampNeg) ((-1 : Int64))) = 0 then (j13 ()) else (zz_b1 (zf_X1_neighbour N z S v4 v9) (fun x16 => zz_let x16 (fun x17 => zz_jn1 (fun (v18 : Int32) => zz_let (v9 + (1 : Int32)) (fun x21 => rc10 v18 x21)) (fun j19 => if x17 = ((-1 : Int32)) then (j19 v8) else (zz_b1 (zf_X1_heldByOther N z S x17 p1) (fun x22 => if x22 = 0 then (j19 v8) else (zz_gd (zz_in x17 z) (zz_let (v8 ||| (((1 : Int32)) <<< ((zz_ga S 10 x17.toNatClampNeg) &&& 31))) (fun x23 => j19 x23))))))))))))) N v3 x7))) N x1 x2))
theorem zi_X4_holdersAround_X4 : ∀ w ∈ wsX40, w ∈ wsX4_holdersAround := by decide +kernel
theorem zm_X4_holdersAround_9 : Cond.fieldLink RX4 9 "GridRipUp$Search" "grid" "LGridRipUp$Grid;" ∈ wsX4_holdersAround := by decide +kernel
theorem zi_X4_holdersAround_X1 : ∀ w ∈ wsX10, w ∈ wsX4_holdersAround := by decide +kernel
theorem zm_X4_holdersAround_19 : Cond.fieldLink RX4 19 "GridRipUp$Grid" "cells" "I" ∈ wsX4_holdersAround := by decide +kernel
theorem zm_X4_holdersAround_25 : Cond.fieldLink RX4 25 "GridRipUp$Search" "distance" "[J" ∈ wsX4_holdersAround := by decide +kernel
theorem zm_X4_holdersAround_c75 : Jvm.Cond.constantLong RX4 75 (-1) ∈ wsX4_holdersAround := by decide +kernel
theorem zm_X4_holdersAround_56 : Cond.fieldLink RX4 56 "GridRipUp$Grid" "holder" "[I" ∈ wsX4_holdersAround := by decide +kernel
theorem zd_X4_holdersAround : yX4_holdersAround.cls = RX4 ∧ yX4_holdersAround.cls ≠ "java/lang/invoke/MethodHandle" ∧ yX4_holdersAround.cls ≠ "java/lang/invoke/VarHandle" ∧ (parseMethodDescriptor yX4_holdersAround.desc).map (fun d => d.parameters.length) = some 1 := by decide +kernel
set_option maxHeartbeats 4000000 in
set_option maxRecDepth 100000 in
theorem zc_X4_holdersAround (N : Nat) (l : Launch) (D : va_G) (k : Nat → ClassId) {a : Nat → Nat} {z : Nat} (S : zz_St) (p1 : Int32)  (v : Int32) (h : zf_X4_holdersAround N z S p1 = some v) : zz_MI l yX4_holdersAround wsX4_holdersAround ({ frames := 1, cells := 0, slots := 0, locals := 22 } : Room) D k (zz_wC a k z) [.ref (a 3), .int p1] S (v, S) := by
  refine zz_metI (cc := cX4_holdersAround) (nL := 6) (ty := .int) (by decide) rfl (Nat.le_of_ble_eq_true rfl) ?_
  intro X C hret
  have C : zz_ok X cX4_holdersAround RX4 wsX4_holdersAround k 6 ({ frames := 1, cells := 0, slots := 0, locals := 22 } : Room) := C
  unfold zf_X4_holdersAround at h
  show zz_ww X (0, 0) (zz_wC a k z S) 0 [(0, .ref (a 3)), (1, .int p1)] []
  refine zr_ic (v := (0 : Int32)) C dX4_holdersAround_0 (by decide) rfl ?_
  refine zr_isn C [1, 2, 0] dX4_holdersAround_1 rfl rfl (by decide) (fun x1 => [(0, .ref (a 3)), (1, .int p1), (2, .int x1)]) h (fun _ => rfl) (fun x1 h => ?_)
  refine zr_ic (v := (0 : Int32)) C dX4_holdersAround_2 (by decide) rfl ?_
  refine zr_isn C [1, 2, 3, 0] dX4_holdersAround_3 rfl rfl (by decide) (fun x2 => [(0, .ref (a 3)), (1, .int p1), (2, .int x1), (3, .int x2)]) h (fun _ => rfl) (fun x2 h => ?_)
  refine zz_fix2_W (fun (v3 : Int32) (v4 : Int32) => zz_ww X (0, 0) (zz_wC a k z S) 4 [(0, .ref (a 3)), (1, .int p1), (2, .int v3), (3, .int v4)] []) ?_ N x1 x2 h
  intro rc5 hr6 v3 v4 h
  refine zr_iln C 3 dX4_holdersAround_4 rfl rfl rfl ?_
  refine zr_aln C 0 dX4_holdersAround_5 rfl rfl rfl ?_
  refine zg_X4_0 C zi_X4_holdersAround_X4 zm_X4_holdersAround_9 dX4_holdersAround_6 rfl ?_
  refine zg_X1_4 C zi_X4_holdersAround_X1 zm_X4_holdersAround_19 dX4_holdersAround_9 rfl ?_
  refine zr_icmp_ge (tgt := 95) C dX4_holdersAround_12 (by decide) rfl h (fun h => ?_) (fun h => ?_)
  · refine zr_iln C 2 dX4_holdersAround_95 rfl rfl rfl ?_
    exact hret v3 S 96 _ (0, 0) (by decide) (by decide) dX4_holdersAround_96 rfl (zz_ro h)
  · refine zr_ic (v := (0 : Int32)) C dX4_holdersAround_15 (by decide) rfl ?_
    refine zr_is C [1, 2, 3, 4, 0] dX4_holdersAround_16 rfl (by decide) (fun x7 => [(0, .ref (a 3)), (1, .int p1), (2, .int v3), (3, .int v4), (4, .int x7)]) h (fun _ => rfl) (fun x7 h => ?_)
    refine zz_fix2_W (fun (v8 : Int32) (v9 : Int32) => zz_ww X (0, 0) (zz_wC a k z S) 18 [(0, .ref (a 3)), (1, .int p1), (2, .int v8), (3, .int v4), (4, .int v9)] []) ?_ N v3 x7 h
    intro rc10 hr11 v8 v9 h
    refine zr_il C 4 dX4_holdersAround_18 rfl rfl ?_
    refine zr_ic (v := (5 : Int32)) C dX4_holdersAround_20 (by decide) rfl ?_
    refine zz_jn1_W h (fun (u12 : Unit) => zz_ww X (0, 0) (zz_wC a k z S) 89 [(0, .ref (a 3)), (1, .int p1), (2, .int v8), (3, .int v4)] []) ?_ ?_
    · intro u12 h
      refine zr_iinc (v := (1 : Int32)) C 3 [1, 2, 3, 0] dX4_holdersAround_89 rfl (by decide) rfl (by decide) (fun x15 => [(0, .ref (a 3)), (1, .int p1), (2, .int v8), (3, .int x15)]) h (fun _ => rfl) (fun x15 h => ?_)
      refine zr_goto (tgt := 4) C dX4_holdersAround_92 (by decide) ?_
      exact hr6 v8 x15 h
    intro j13 hj14 h
    refine zr_icmp_gt (tgt := 89) C dX4_holdersAround_21 (by decide) rfl h (fun h => ?_) (fun h => ?_)
    · refine zr_sub [0, 1, 2, 3] rfl ?_
      exact hj14 () h
    · refine zr_aln C 0 dX4_holdersAround_24 rfl rfl rfl ?_
      refine zg_X4_2 C zi_X4_holdersAround_X4 zm_X4_holdersAround_25 dX4_holdersAround_25 rfl ?_
      refine zr_iln C 3 dX4_holdersAround_28 rfl rfl rfl ?_
      refine zl_C17 C dX4_holdersAround_29 rfl h (fun h => ?_)
      refine zr_ldc2 (v := (-1 : Int64)) C dX4_holdersAround_30 zm_X4_holdersAround_c75 rfl ?_
      refine zr_lcmp C dX4_holdersAround_33 rfl ?_
      refine zr_if_eq (tgt := 89) C dX4_holdersAround_34 (by decide) rfl h (fun h => ?_) (fun h => ?_)
      · refine zr_sub [0, 1, 2, 3] rfl ?_
        exact hj14 () h
      · refine zr_aln C 0 dX4_holdersAround_37 rfl rfl rfl ?_
        refine zg_X4_0 C zi_X4_holdersAround_X4 zm_X4_holdersAround_9 dX4_holdersAround_38 rfl ?_
        refine zr_iln C 3 dX4_holdersAround_41 rfl rfl rfl ?_
        refine zr_il C 4 dX4_holdersAround_42 rfl rfl ?_
        refine zr_cVir (wf := (zz_wC a k z)) (st := []) C (fun l D v hv => zc_X1_neighbour N l D k (a := a) (z := z) S v4 v9 v hv) gX4_holdersAround_X1_neighbour rfl zd_X1_neighbour ⟨by decide, by decide⟩ ⟨by decide, by decide⟩ rfl ⟨1, 1, _, _, _, zk_C1, rfl⟩ (Nat.le_of_ble_eq_true rfl) rfl dX4_holdersAround_44 rfl rfl h (fun x16 _ h => ?_)
        refine zr_is C [1, 2, 3, 4, 5, 0] dX4_holdersAround_47 rfl (by decide) (fun x17 => [(0, .ref (a 3)), (1, .int p1), (2, .int v8), (3, .int v4), (4, .int v9), (5, .int x17)]) h (fun _ => rfl) (fun x17 h => ?_)
        refine zr_il C 5 dX4_holdersAround_49 rfl rfl ?_
        refine zr_ic (v := (-1 : Int32)) C dX4_holdersAround_51 (by decide) rfl ?_
        refine zz_jn1_W h (fun (v18 : Int32) => zz_ww X (0, 0) (zz_wC a k z S) 83 [(0, .ref (a 3)), (1, .int p1), (2, .int v18), (3, .int v4), (4, .int v9)] []) ?_ ?_
        · intro v18 h
          refine zr_iinc (v := (1 : Int32)) C 4 [1, 2, 3, 4, 0] dX4_holdersAround_83 rfl (by decide) rfl (by decide) (fun x21 => [(0, .ref (a 3)), (1, .int p1), (2, .int v18), (3, .int v4), (4, .int x21)]) h (fun _ => rfl) (fun x21 h => ?_)
          refine zr_goto (tgt := 18) C dX4_holdersAround_86 (by decide) ?_
          exact hr11 v18 x21 h
        intro j19 hj20 h
        refine zr_icmp_eq (tgt := 83) C dX4_holdersAround_52 (by decide) rfl h (fun h => ?_) (fun h => ?_)
        · refine zr_sub [0, 1, 2, 3, 4] rfl ?_
          exact hj20 v8 h
        · refine zr_aln C 0 dX4_holdersAround_55 rfl rfl rfl ?_
          refine zg_X4_0 C zi_X4_holdersAround_X4 zm_X4_holdersAround_9 dX4_holdersAround_56 rfl ?_
          refine zr_il C 5 dX4_holdersAround_59 rfl rfl ?_
          refine zr_iln C 1 dX4_holdersAround_61 rfl rfl rfl ?_
          refine zr_cVir (wf := (zz_wC a k z)) (st := []) C (fun l D v hv => zc_X1_heldByOther N l D k (a := a) (z := z) S x17 p1 v hv) gX4_holdersAround_X1_heldByOther rfl zd_X1_heldByOther ⟨by decide, by decide⟩ ⟨by decide, by decide⟩ rfl ⟨1, 1, _, _, _, zk_C1, rfl⟩ (Nat.le_of_ble_eq_true rfl) rfl dX4_holdersAround_62 rfl rfl h (fun x22 _ h => ?_)
          refine zr_if_eq (tgt := 83) C dX4_holdersAround_65 (by decide) rfl h (fun h => ?_) (fun h => ?_)
          · refine zr_sub [0, 1, 2, 3, 4] rfl ?_
            exact hj20 v8 h
          · refine zr_iln C 2 dX4_holdersAround_68 rfl rfl rfl ?_
            refine zr_ic (v := (1 : Int32)) C dX4_holdersAround_69 (by decide) rfl ?_
            refine zr_aln C 0 dX4_holdersAround_70 rfl rfl rfl ?_
            refine zg_X4_0 C zi_X4_holdersAround_X4 zm_X4_holdersAround_9 dX4_holdersAround_71 rfl ?_
            refine zg_X1_7 C zi_X4_holdersAround_X1 zm_X4_holdersAround_56 dX4_holdersAround_74 rfl ?_
            refine zr_il C 5 dX4_holdersAround_77 rfl rfl ?_
            refine zl_C10 C dX4_holdersAround_79 rfl h (fun h => ?_)
            refine zr_ishl C dX4_holdersAround_80 rfl ?_
            refine zr_ior C dX4_holdersAround_81 rfl ?_
            refine zr_isn C [1, 2, 0, 3, 4, 5] dX4_holdersAround_82 rfl rfl (by decide) (fun x23 => [(0, .ref (a 3)), (1, .int p1), (2, .int x23), (3, .int v4), (4, .int v9), (5, .int x17)]) h (fun _ => rfl) (fun x23 h => ?_)
            refine zr_sub [0, 1, 2, 3, 4] rfl ?_
            exact hj20 x23 h

def zf_X5_add (N : Nat) (z : Nat) (S : zz_St) (p1 : Int32) : Option zz_St := zz_jn1 (fun (S1 : zz_St) => some S1) (fun j2 => if (nI z) ≤ (zz_gi S 7) then (j2 S) else (zz_gd (zz_in (zz_gi S 7) z) (zz_let (zz_sa S 16 (upd (zz_ga S 16) (zz_gi S 7).toNatClampNeg p1)) (fun S4 => zz_let (zz_si S4 7 ((zz_gi S4 7) + ((1 : Int32)))) (fun S5 => j2 S5)))))
theorem zi_X5_add_X5 : ∀ w ∈ wsX50, w ∈ wsX5_add := by decide +kernel
theorem zm_X5_add_13 : Cond.fieldLink RX5 13 "GridRipUp$Tree" "size" "I" ∈ wsX5_add := by decide +kernel
theorem zm_X5_add_7 : Cond.fieldLink RX5 7 "GridRipUp$Tree" "members" "[I" ∈ wsX5_add := by decide +kernel
theorem zd_X5_add : yX5_add.cls = RX5 ∧ yX5_add.cls ≠ "java/lang/invoke/MethodHandle" ∧ yX5_add.cls ≠ "java/lang/invoke/VarHandle" ∧ (parseMethodDescriptor yX5_add.desc).map (fun d => d.parameters.length) = some 1 := by decide +kernel
set_option maxHeartbeats 4000000 in
set_option maxRecDepth 100000 in
theorem zc_X5_add (N : Nat) (l : Launch) (D : va_G) (k : Nat → ClassId) {a : Nat → Nat} {z : Nat} (S : zz_St) (p1 : Int32)  (u : zz_St) (h : zf_X5_add N z S p1 = some u) : zz_MV l yX5_add wsX5_add ({ frames := 0, cells := 0, slots := 0, locals := 0 } : Room) D k (zz_wC a k z) [.ref (a 4), .int p1] S u := by
  refine zz_metV (cc := cX5_add) (nL := 2) (by decide) rfl (Nat.le_of_ble_eq_true rfl) ?_
  intro X C hret
  have C : zz_ok X cX5_add RX5 wsX5_add k 2 ({ frames := 0, cells := 0, slots := 0, locals := 0 } : Room) := C
  unfold zf_X5_add at h
  show zz_ww X (0, 0) (zz_wC a k z S) 0 [(0, .ref (a 4)), (1, .int p1)] []
  refine zr_aln C 0 dX5_add_0 rfl rfl rfl ?_
  refine zg_X5_1 C zi_X5_add_X5 zm_X5_add_13 dX5_add_1 rfl ?_
  refine zr_aln C 0 dX5_add_4 rfl rfl rfl ?_
  refine zg_X5_0 C zi_X5_add_X5 zm_X5_add_7 dX5_add_5 rfl ?_
  refine zn_C16 C dX5_add_8 rfl ?_
  refine zz_jn1_W h (fun (S1 : zz_St) => zz_ww X (0, 0) (zz_wC a k z S1) 32 [] []) ?_ ?_
  · intro S1 h
    exact hret S1 32 _ (0, 0) (by decide) (by decide) dX5_add_32 h
  intro j2 hj3 h
  refine zr_icmp_ge (tgt := 32) C dX5_add_9 (by decide) rfl h (fun h => ?_) (fun h => ?_)
  · refine zr_sub [] rfl ?_
    exact hj3 S h
  · refine zr_aln C 0 dX5_add_12 rfl rfl rfl ?_
    refine zg_X5_0 C zi_X5_add_X5 zm_X5_add_7 dX5_add_13 rfl ?_
    refine zr_aln C 0 dX5_add_16 rfl rfl rfl ?_
    refine zg_X5_1 C zi_X5_add_X5 zm_X5_add_13 dX5_add_17 rfl ?_
    refine zr_iln C 1 dX5_add_20 rfl rfl rfl ?_
    refine zs_C16 C dX5_add_21 rfl h (fun S4 h => ?_)
    refine zr_aln C 0 dX5_add_22 rfl rfl rfl ?_
    refine zr_dup C dX5_add_23 rfl rfl ?_
    refine zg_X5_1 C zi_X5_add_X5 zm_X5_add_13 dX5_add_24 rfl ?_
    refine zr_ic (v := (1 : Int32)) C dX5_add_27 (by decide) rfl ?_
    refine zr_iadd C dX5_add_28 rfl ?_
    refine zp_X5_1 C zi_X5_add_X5 zm_X5_add_13 dX5_add_29 rfl h (fun S5 h => ?_)
    refine zr_sub [] rfl ?_
    exact hj3 S5 h

def zf_X5_startAt (N : Nat) (z : Nat) (S : zz_St) (p1 : Int32) : Option zz_St := zz_let (zz_si S 7 ((0 : Int32))) (fun S1 => zz_b1 (zf_X5_add N z S1 p1) (fun S2 => some S2))
theorem zi_X5_startAt_X5 : ∀ w ∈ wsX50, w ∈ wsX5_startAt := by decide +kernel
theorem zm_X5_startAt_13 : Cond.fieldLink RX5 13 "GridRipUp$Tree" "size" "I" ∈ wsX5_startAt := by decide +kernel
theorem zd_X5_startAt : yX5_startAt.cls = RX5 ∧ yX5_startAt.cls ≠ "java/lang/invoke/MethodHandle" ∧ yX5_startAt.cls ≠ "java/lang/invoke/VarHandle" ∧ (parseMethodDescriptor yX5_startAt.desc).map (fun d => d.parameters.length) = some 1 := by decide +kernel
set_option maxHeartbeats 4000000 in
set_option maxRecDepth 100000 in
theorem zc_X5_startAt (N : Nat) (l : Launch) (D : va_G) (k : Nat → ClassId) {a : Nat → Nat} {z : Nat} (S : zz_St) (p1 : Int32)  (u : zz_St) (h : zf_X5_startAt N z S p1 = some u) : zz_MV l yX5_startAt wsX5_startAt ({ frames := 1, cells := 0, slots := 0, locals := 21 } : Room) D k (zz_wC a k z) [.ref (a 4), .int p1] S u := by
  refine zz_metV (cc := cX5_startAt) (nL := 2) (by decide) rfl (Nat.le_of_ble_eq_true rfl) ?_
  intro X C hret
  have C : zz_ok X cX5_startAt RX5 wsX5_startAt k 2 ({ frames := 1, cells := 0, slots := 0, locals := 21 } : Room) := C
  unfold zf_X5_startAt at h
  show zz_ww X (0, 0) (zz_wC a k z S) 0 [(0, .ref (a 4)), (1, .int p1)] []
  refine zr_aln C 0 dX5_startAt_0 rfl rfl rfl ?_
  refine zr_ic (v := (0 : Int32)) C dX5_startAt_1 (by decide) rfl ?_
  refine zp_X5_1 C zi_X5_startAt_X5 zm_X5_startAt_13 dX5_startAt_2 rfl h (fun S1 h => ?_)
  refine zr_aln C 0 dX5_startAt_5 rfl rfl rfl ?_
  refine zr_iln C 1 dX5_startAt_6 rfl rfl rfl ?_
  refine zr_cVv (wf := (zz_wC a k z)) (st := []) C (fun l D u hu => zc_X5_add N l D k (a := a) (z := z) S1 p1 u hu) gX5_startAt_X5_add rfl zd_X5_add ⟨by decide, by decide⟩ ⟨by decide, by decide⟩ rfl ⟨4, 5, _, _, _, zk_C4, rfl⟩ (Nat.le_of_ble_eq_true rfl) rfl dX5_startAt_7 rfl rfl h (fun S2 _ h => ?_)
  exact hret S2 10 _ (0, 0) (by decide) (by decide) dX5_startAt_10 h

def zf_X5_holdFor (N : Nat) (z : Nat) (S : zz_St) (p1 : Int32) : Option zz_St := zz_let ((0 : Int32)) (fun x1 => zz_fix2 (fun rc4 (v2 : Int32) (S3 : zz_St) => if (zz_gi S3 7) ≤ v2 then (some S3) else (zz_gd (zz_in v2 z) (zz_gd (zz_in (zz_ga S3 16 v2.toNatClampNeg) z) (zz_let (zz_sa S3 10 (upd (zz_ga S3 10) (zz_ga S3 16 v2.toNatClampNeg).toNatClampNeg p1)) (fun S6 => zz_gd (zz_in v2 z) (zz_gd (zz_in (zz_ga S6 16 v2.toNatClampNeg) z) (zz_let (zz_sa S6 11 (upd (zz_ga S6 11) (zz_ga S6 16 v2.toNatClampNeg).toNatClampNeg v2)) (fun S7 => zz_let (v2 + (1 : Int32)) (fun x8 => rc4 x8 S7))))))))) N x1 S)
theorem zi_X5_holdFor_X5 : ∀ w ∈ wsX50, w ∈ wsX5_holdFor := by decide +kernel
theorem zm_X5_holdFor_13 : Cond.fieldLink RX5 13 "GridRipUp$Tree" "size" "I" ∈ wsX5_holdFor := by decide +kernel
theorem zi_X5_holdFor_X1 : ∀ w ∈ wsX10, w ∈ wsX5_holdFor := by decide +kernel
theorem zm_X5_holdFor_21 : Cond.fieldLink RX5 21 "GridRipUp$Grid" "holder" "[I" ∈ wsX5_holdFor := by decide +kernel
theorem zm_X5_holdFor_7 : Cond.fieldLink RX5 7 "GridRipUp$Tree" "members" "[I" ∈ wsX5_holdFor := by decide +kernel
theorem zm_X5_holdFor_26 : Cond.fieldLink RX5 26 "GridRipUp$Grid" "turn" "[I" ∈ wsX5_holdFor := by decide +kernel
theorem zd_X5_holdFor : yX5_holdFor.cls = RX5 ∧ yX5_holdFor.cls ≠ "java/lang/invoke/MethodHandle" ∧ yX5_holdFor.cls ≠ "java/lang/invoke/VarHandle" ∧ (parseMethodDescriptor yX5_holdFor.desc).map (fun d => d.parameters.length) = some 2 := by decide +kernel
set_option maxHeartbeats 4000000 in
set_option maxRecDepth 100000 in
theorem zc_X5_holdFor (N : Nat) (l : Launch) (D : va_G) (k : Nat → ClassId) {a : Nat → Nat} {z : Nat} (S : zz_St) (p1 : Int32)  (u : zz_St) (h : zf_X5_holdFor N z S p1 = some u) : zz_MV l yX5_holdFor wsX5_holdFor ({ frames := 0, cells := 0, slots := 0, locals := 0 } : Room) D k (zz_wC a k z) [.ref (a 4), .int p1, .ref (a 1)] S u := by
  refine zz_metV (cc := cX5_holdFor) (nL := 4) (by decide) rfl (Nat.le_of_ble_eq_true rfl) ?_
  intro X C hret
  have C : zz_ok X cX5_holdFor RX5 wsX5_holdFor k 4 ({ frames := 0, cells := 0, slots := 0, locals := 0 } : Room) := C
  unfold zf_X5_holdFor at h
  show zz_ww X (0, 0) (zz_wC a k z S) 0 [(0, .ref (a 4)), (1, .int p1), (2, .ref (a 1))] []
  refine zr_ic (v := (0 : Int32)) C dX5_holdFor_0 (by decide) rfl ?_
  refine zr_isn C [1, 2, 3, 0] dX5_holdFor_1 rfl rfl (by decide) (fun x1 => [(0, .ref (a 4)), (1, .int p1), (2, .ref (a 1)), (3, .int x1)]) h (fun _ => rfl) (fun x1 h => ?_)
  refine zz_fix2_W (fun (v2 : Int32) (S3 : zz_St) => zz_ww X (0, 0) (zz_wC a k z S3) 2 [(0, .ref (a 4)), (1, .int p1), (2, .ref (a 1)), (3, .int v2)] []) ?_ N x1 S h
  intro rc4 hr5 v2 S3 h
  refine zr_iln C 3 dX5_holdFor_2 rfl rfl rfl ?_
  refine zr_aln C 0 dX5_holdFor_3 rfl rfl rfl ?_
  refine zg_X5_1 C zi_X5_holdFor_X5 zm_X5_holdFor_13 dX5_holdFor_4 rfl ?_
  refine zr_icmp_ge (tgt := 40) C dX5_holdFor_7 (by decide) rfl h (fun h => ?_) (fun h => ?_)
  · exact hret S3 40 _ (0, 0) (by decide) (by decide) dX5_holdFor_40 h
  · refine zr_aln C 2 dX5_holdFor_10 rfl rfl rfl ?_
    refine zg_X1_7 C zi_X5_holdFor_X1 zm_X5_holdFor_21 dX5_holdFor_11 rfl ?_
    refine zr_aln C 0 dX5_holdFor_14 rfl rfl rfl ?_
    refine zg_X5_0 C zi_X5_holdFor_X5 zm_X5_holdFor_7 dX5_holdFor_15 rfl ?_
    refine zr_iln C 3 dX5_holdFor_18 rfl rfl rfl ?_
    refine zl_C16 C dX5_holdFor_19 rfl h (fun h => ?_)
    refine zr_iln C 1 dX5_holdFor_20 rfl rfl rfl ?_
    refine zs_C10 C dX5_holdFor_21 rfl h (fun S6 h => ?_)
    refine zr_aln C 2 dX5_holdFor_22 rfl rfl rfl ?_
    refine zg_X1_8 C zi_X5_holdFor_X1 zm_X5_holdFor_26 dX5_holdFor_23 rfl ?_
    refine zr_aln C 0 dX5_holdFor_26 rfl rfl rfl ?_
    refine zg_X5_0 C zi_X5_holdFor_X5 zm_X5_holdFor_7 dX5_holdFor_27 rfl ?_
    refine zr_iln C 3 dX5_holdFor_30 rfl rfl rfl ?_
    refine zl_C16 C dX5_holdFor_31 rfl h (fun h => ?_)
    refine zr_iln C 3 dX5_holdFor_32 rfl rfl rfl ?_
    refine zs_C11 C dX5_holdFor_33 rfl h (fun S7 h => ?_)
    refine zr_iinc (v := (1 : Int32)) C 3 [1, 2, 3, 0] dX5_holdFor_34 rfl (by decide) rfl (by decide) (fun x8 => [(0, .ref (a 4)), (1, .int p1), (2, .ref (a 1)), (3, .int x8)]) h (fun _ => rfl) (fun x8 h => ?_)
    refine zr_goto (tgt := 2) C dX5_holdFor_37 (by decide) ?_
    exact hr5 x8 S7 h

def zf_X6_net (N : Nat) (z : Nat) (S : zz_St)  : Option (Int32 × zz_St) := if (zz_gi S 0) < ((12 : Int32)) then (zz_let (zz_si S 0 ((zz_gi S 0) + ((1 : Int32)))) (fun S1 => some ((zz_gi S1 0) - ((1 : Int32)), S1))) else (some ((-1 : Int32), S))
theorem zi_X6_net_X6 : ∀ w ∈ wsX60, w ∈ wsX6_net := by decide +kernel
theorem zm_X6_net_58 : Cond.fieldLink RX6 58 "GridRipUp" "netCount" "I" ∈ wsX6_net := by decide +kernel
theorem zd_X6_net : yX6_net.cls = RX6 ∧ yX6_net.cls ≠ "java/lang/invoke/MethodHandle" ∧ yX6_net.cls ≠ "java/lang/invoke/VarHandle" ∧ (parseMethodDescriptor yX6_net.desc).map (fun d => d.parameters.length) = some 0 := by decide +kernel
set_option maxHeartbeats 4000000 in
set_option maxRecDepth 100000 in
theorem zc_X6_net (N : Nat) (l : Launch) (D : va_G) (k : Nat → ClassId) {a : Nat → Nat} {z : Nat} (S : zz_St)   (v : Int32) (u : zz_St) (h : zf_X6_net N z S  = some (v, u)) : zz_MI l yX6_net wsX6_net ({ frames := 0, cells := 0, slots := 0, locals := 0 } : Room) D k (zz_wC a k z) [.ref (a 0)] S (v, u) := by
  refine zz_metI (cc := cX6_net) (nL := 1) (ty := .int) (by decide) rfl (Nat.le_of_ble_eq_true rfl) ?_
  intro X C hret
  have C : zz_ok X cX6_net RX6 wsX6_net k 1 ({ frames := 0, cells := 0, slots := 0, locals := 0 } : Room) := C
  unfold zf_X6_net at h
  show zz_ww X (0, 0) (zz_wC a k z S) 0 [(0, .ref (a 0))] []
  refine zr_aln C 0 dX6_net_0 rfl rfl rfl ?_
  refine zg_X6_6 C zi_X6_net_X6 zm_X6_net_58 dX6_net_1 rfl ?_
  refine zr_bi (v := (12 : Int32)) C dX6_net_4 (by decide) rfl ?_
  refine zr_icmp_lt (tgt := 11) C dX6_net_6 (by decide) rfl h (fun h => ?_) (fun h => ?_)
  · refine zr_aln C 0 dX6_net_11 rfl rfl rfl ?_
    refine zr_dup C dX6_net_12 rfl rfl ?_
    refine zg_X6_6 C zi_X6_net_X6 zm_X6_net_58 dX6_net_13 rfl ?_
    refine zr_ic (v := (1 : Int32)) C dX6_net_16 (by decide) rfl ?_
    refine zr_iadd C dX6_net_17 rfl ?_
    refine zp_X6_6 C zi_X6_net_X6 zm_X6_net_58 dX6_net_18 rfl h (fun S1 h => ?_)
    refine zr_aln C 0 dX6_net_21 rfl rfl rfl ?_
    refine zg_X6_6 C zi_X6_net_X6 zm_X6_net_58 dX6_net_22 rfl ?_
    refine zr_ic (v := (1 : Int32)) C dX6_net_25 (by decide) rfl ?_
    refine zr_isub C dX6_net_26 rfl ?_
    exact hret ((zz_gi S1 0) - ((1 : Int32))) S1 27 _ (0, 0) (by decide) (by decide) dX6_net_27 rfl h
  · refine zr_ic (v := (-1 : Int32)) C dX6_net_9 (by decide) rfl ?_
    exact hret ((-1 : Int32)) S 10 _ (0, 0) (by decide) (by decide) dX6_net_10 rfl h

def zf_X6_openNets (N : Nat) (z : Nat) (S : zz_St)  : Option Int32 := zz_let ((0 : Int32)) (fun x1 => zz_let ((0 : Int32)) (fun x2 => zz_fix2 (fun rc5 (v3 : Int32) (v4 : Int32) => if (zz_gi S 0) ≤ v4 then (some (v3)) else (zz_gd (zz_in v4 12) (zz_b1 (zf_X2_isOpen N z S v4.toNatClampNeg) (fun x8 => zz_jn1 (fun (v9 : Int32) => zz_let (v4 + (1 : Int32)) (fun x12 => rc5 v9 x12)) (fun j10 => if x8 = 0 then (j10 v3) else (zz_let (v3 ||| (((1 : Int32)) <<< (v4 &&& 31))) (fun x13 => j10 x13))))))) N x1 x2))
theorem zi_X6_openNets_X6 : ∀ w ∈ wsX60, w ∈ wsX6_openNets := by decide +kernel
theorem zm_X6_openNets_58 : Cond.fieldLink RX6 58 "GridRipUp" "netCount" "I" ∈ wsX6_openNets := by decide +kernel
theorem zm_X6_openNets_49 : Cond.fieldLink RX6 49 "GridRipUp" "nets" "[LGridRipUp$Net;" ∈ wsX6_openNets := by decide +kernel
theorem zd_X6_openNets : yX6_openNets.cls = RX6 ∧ yX6_openNets.cls ≠ "java/lang/invoke/MethodHandle" ∧ yX6_openNets.cls ≠ "java/lang/invoke/VarHandle" ∧ (parseMethodDescriptor yX6_openNets.desc).map (fun d => d.parameters.length) = some 0 := by decide +kernel
set_option maxHeartbeats 4000000 in
set_option maxRecDepth 100000 in
theorem zc_X6_openNets (N : Nat) (l : Launch) (D : va_G) (k : Nat → ClassId) {a : Nat → Nat} {z : Nat} (S : zz_St)   (v : Int32) (h : zf_X6_openNets N z S  = some v) : zz_MI l yX6_openNets wsX6_openNets ({ frames := 1, cells := 0, slots := 0, locals := 20 } : Room) D k (zz_wC a k z) [.ref (a 0)] S (v, S) := by
  refine zz_metI (cc := cX6_openNets) (nL := 3) (ty := .int) (by decide) rfl (Nat.le_of_ble_eq_true rfl) ?_
  intro X C hret
  have C : zz_ok X cX6_openNets RX6 wsX6_openNets k 3 ({ frames := 1, cells := 0, slots := 0, locals := 20 } : Room) := C
  unfold zf_X6_openNets at h
  show zz_ww X (0, 0) (zz_wC a k z S) 0 [(0, .ref (a 0))] []
  refine zr_ic (v := (0 : Int32)) C dX6_openNets_0 (by decide) rfl ?_
  refine zr_isn C [1, 0] dX6_openNets_1 rfl rfl (by decide) (fun x1 => [(0, .ref (a 0)), (1, .int x1)]) h (fun _ => rfl) (fun x1 h => ?_)
  refine zr_ic (v := (0 : Int32)) C dX6_openNets_2 (by decide) rfl ?_
  refine zr_isn C [1, 2, 0] dX6_openNets_3 rfl rfl (by decide) (fun x2 => [(0, .ref (a 0)), (1, .int x1), (2, .int x2)]) h (fun _ => rfl) (fun x2 h => ?_)
  refine zz_fix2_W (fun (v3 : Int32) (v4 : Int32) => zz_ww X (0, 0) (zz_wC a k z S) 4 [(0, .ref (a 0)), (1, .int v3), (2, .int v4)] []) ?_ N x1 x2 h
  intro rc5 hr6 v3 v4 h
  refine zr_iln C 2 dX6_openNets_4 rfl rfl rfl ?_
  refine zr_aln C 0 dX6_openNets_5 rfl rfl rfl ?_
  refine zg_X6_6 C zi_X6_openNets_X6 zm_X6_openNets_58 dX6_openNets_6 rfl ?_
  refine zr_icmp_ge (tgt := 36) C dX6_openNets_9 (by decide) rfl h (fun h => ?_) (fun h => ?_)
  · refine zr_iln C 1 dX6_openNets_36 rfl rfl rfl ?_
    exact hret v3 S 37 _ (0, 0) (by decide) (by decide) dX6_openNets_37 rfl (zz_ro h)
  · refine zr_aln C 0 dX6_openNets_12 rfl rfl rfl ?_
    refine zg_X6_4 C zi_X6_openNets_X6 zm_X6_openNets_49 dX6_openNets_13 rfl ?_
    refine zr_iln C 2 dX6_openNets_16 rfl rfl rfl ?_
    refine zl_C6 C dX6_openNets_17 rfl h (fun hn7 h => ?_)
    refine zr_cVir (wf := (zz_wC a k z)) (st := []) C (fun l D v hv => zc_X2_isOpen N l D k (a := a) (z := z) S v4.toNatClampNeg hn7 v hv) gX6_openNets_X2_isOpen rfl zd_X2_isOpen ⟨by decide, by decide⟩ ⟨by decide, by decide⟩ rfl ⟨21 + v4.toNatClampNeg, 2, _, _, _, zk_Cn hn7, rfl⟩ (Nat.le_of_ble_eq_true rfl) rfl dX6_openNets_18 rfl rfl h (fun x8 _ h => ?_)
    refine zz_jn1_W h (fun (v9 : Int32) => zz_ww X (0, 0) (zz_wC a k z S) 30 [(0, .ref (a 0)), (1, .int v9), (2, .int v4)] []) ?_ ?_
    · intro v9 h
      refine zr_iinc (v := (1 : Int32)) C 2 [1, 2, 0] dX6_openNets_30 rfl (by decide) rfl (by decide) (fun x12 => [(0, .ref (a 0)), (1, .int v9), (2, .int x12)]) h (fun _ => rfl) (fun x12 h => ?_)
      refine zr_goto (tgt := 4) C dX6_openNets_33 (by decide) ?_
      exact hr6 v9 x12 h
    intro j10 hj11 h
    refine zr_if_eq (tgt := 30) C dX6_openNets_21 (by decide) rfl h (fun h => ?_) (fun h => ?_)
    · exact hj11 v3 h
    · refine zr_iln C 1 dX6_openNets_24 rfl rfl rfl ?_
      refine zr_ic (v := (1 : Int32)) C dX6_openNets_25 (by decide) rfl ?_
      refine zr_iln C 2 dX6_openNets_26 rfl rfl rfl ?_
      refine zr_ishl C dX6_openNets_27 rfl ?_
      refine zr_ior C dX6_openNets_28 rfl ?_
      refine zr_isn C [1, 0, 2] dX6_openNets_29 rfl rfl (by decide) (fun x13 => [(0, .ref (a 0)), (1, .int x13), (2, .int v4)]) h (fun _ => rfl) (fun x13 h => ?_)
      exact hj11 x13 h


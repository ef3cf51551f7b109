def zf_X0_clear (N : Nat) (z : Nat) (S : zz_St)  : Option zz_St := zz_let (zz_si S 8 ((0 : Int32))) (fun S1 => zz_gd (decide (z < 2147483648)) (zz_let (zz_sa S1 20 (fun j => if j < z then ((-1 : Int32)) else zz_ga S1 20 j)) (fun S2 => some S2)))
theorem zi_X0_clear_X0 : ∀ w ∈ wsX00, w ∈ wsX0_clear := by decide +kernel
theorem zm_X0_clear_22 : Cond.fieldLink RX0 22 "GridRipUp$Frontier" "size" "I" ∈ wsX0_clear := by decide +kernel
theorem zm_X0_clear_19 : Cond.fieldLink RX0 19 "GridRipUp$Frontier" "seat" "[I" ∈ wsX0_clear := by decide +kernel
theorem zd_X0_clear : yX0_clear.cls = RX0 ∧ yX0_clear.cls ≠ "java/lang/invoke/MethodHandle" ∧ yX0_clear.cls ≠ "java/lang/invoke/VarHandle" ∧ (parseMethodDescriptor yX0_clear.desc).map (fun d => d.parameters.length) = some 0 := by decide +kernel
set_option maxHeartbeats 4000000 in
set_option maxRecDepth 100000 in
theorem zc_X0_clear (N : Nat) (l : Launch) (D : va_G) (k : Nat → ClassId) {a : Nat → Nat} {z : Nat} (S : zz_St)   (u : zz_St) (h : zf_X0_clear N z S  = some u) : zz_MV l yX0_clear wsX0_clear ({ frames := 1, cells := 0, slots := 0, locals := 23 } : Room) D k (zz_wC a k z) [.ref (a 5)] S u := by
  refine zz_metV (cc := cX0_clear) (nL := 1) (by decide) rfl (Nat.le_of_ble_eq_true rfl) ?_
  intro X C hret
  have C : zz_ok X cX0_clear RX0 wsX0_clear k 1 ({ frames := 1, cells := 0, slots := 0, locals := 23 } : Room) := C
  unfold zf_X0_clear at h
  show zz_ww X (0, 0) (zz_wC a k z S) 0 [(0, .ref (a 5))] []
  refine zr_aln C 0 dX0_clear_0 rfl rfl rfl ?_
  refine zr_ic (v := (0 : Int32)) C dX0_clear_1 (by decide) rfl ?_
  refine zp_X0_3 C zi_X0_clear_X0 zm_X0_clear_22 dX0_clear_2 rfl h (fun S1 h => ?_)
  refine zr_aln C 0 dX0_clear_5 rfl rfl rfl ?_
  refine zg_X0_2 C zi_X0_clear_X0 zm_X0_clear_19 dX0_clear_6 rfl ?_
  refine zr_ic (v := (-1 : Int32)) C dX0_clear_9 (by decide) rfl ?_
  refine zr_fillI_20 C gX0_clear_J7_fill_53178 ⟨by decide, by decide⟩ ⟨by decide, by decide⟩ (Nat.le_of_ble_eq_true rfl) dX0_clear_10 rfl h (fun S2 h => ?_)
  exact hret S2 13 _ (0, 0) (by decide) (by decide) dX0_clear_13 h

def zf_X0_seatAt (N : Nat) (z : Nat) (S : zz_St) (p1 : Int32) (p2 : Int32) : Option zz_St := zz_gd (zz_in p1 z) (zz_let (zz_sa S 19 (upd (zz_ga S 19) p1.toNatClampNeg p2)) (fun S1 => zz_gd (zz_in p2 z) (zz_let (zz_sa S1 20 (upd (zz_ga S1 20) p2.toNatClampNeg p1)) (fun S2 => some S2))))
theorem zi_X0_seatAt_X0 : ∀ w ∈ wsX00, w ∈ wsX0_seatAt := by decide +kernel
theorem zm_X0_seatAt_15 : Cond.fieldLink RX0 15 "GridRipUp$Frontier" "heap" "[I" ∈ wsX0_seatAt := by decide +kernel
theorem zm_X0_seatAt_19 : Cond.fieldLink RX0 19 "GridRipUp$Frontier" "seat" "[I" ∈ wsX0_seatAt := by decide +kernel
theorem zd_X0_seatAt : yX0_seatAt.cls = RX0 ∧ yX0_seatAt.cls ≠ "java/lang/invoke/MethodHandle" ∧ yX0_seatAt.cls ≠ "java/lang/invoke/VarHandle" ∧ (parseMethodDescriptor yX0_seatAt.desc).map (fun d => d.parameters.length) = some 2 := by decide +kernel
set_option maxHeartbeats 4000000 in
set_option maxRecDepth 100000 in
theorem zc_X0_seatAt (N : Nat) (l : Launch) (D : va_G) (k : Nat → ClassId) {a : Nat → Nat} {z : Nat} (S : zz_St) (p1 : Int32) (p2 : Int32)  (u : zz_St) (h : zf_X0_seatAt N z S p1 p2 = some u) : zz_MV l yX0_seatAt wsX0_seatAt ({ frames := 0, cells := 0, slots := 0, locals := 0 } : Room) D k (zz_wC a k z) [.ref (a 5), .int p1, .int p2] S u := by
  refine zz_metV (cc := cX0_seatAt) (nL := 3) (by decide) rfl (Nat.le_of_ble_eq_true rfl) ?_
  intro X C hret
  have C : zz_ok X cX0_seatAt RX0 wsX0_seatAt k 3 ({ frames := 0, cells := 0, slots := 0, locals := 0 } : Room) := C
  unfold zf_X0_seatAt at h
  show zz_ww X (0, 0) (zz_wC a k z S) 0 [(0, .ref (a 5)), (1, .int p1), (2, .int p2)] []
  refine zr_aln C 0 dX0_seatAt_0 rfl rfl rfl ?_
  refine zg_X0_1 C zi_X0_seatAt_X0 zm_X0_seatAt_15 dX0_seatAt_1 rfl ?_
  refine zr_iln C 1 dX0_seatAt_4 rfl rfl rfl ?_
  refine zr_iln C 2 dX0_seatAt_5 rfl rfl rfl ?_
  refine zs_C19 C dX0_seatAt_6 rfl h (fun S1 h => ?_)
  refine zr_aln C 0 dX0_seatAt_7 rfl rfl rfl ?_
  refine zg_X0_2 C zi_X0_seatAt_X0 zm_X0_seatAt_19 dX0_seatAt_8 rfl ?_
  refine zr_iln C 2 dX0_seatAt_11 rfl rfl rfl ?_
  refine zr_iln C 1 dX0_seatAt_12 rfl rfl rfl ?_
  refine zs_C20 C dX0_seatAt_13 rfl h (fun S2 h => ?_)
  exact hret S2 14 _ (0, 0) (by decide) (by decide) dX0_seatAt_14 h

def zf_X0_put (N : Nat) (z : Nat) (S : zz_St) (p1 : Int32) : Option zz_St := zz_gd (zz_in p1 z) (zz_let (zz_ga S 20 p1.toNatClampNeg) (fun x1 => zz_jn2 (fun (v2 : Int32) (S3 : zz_St) => zz_let ((0 : Int32)) (fun x6 => zz_fix3 (fun rc10 (v7 : Int32) (v8 : Int32) (S9 : zz_St) => zz_jn1 (fun (u12 : Unit) => zz_b1 (zf_X0_seatAt N z S9 v7 p1) (fun S15 => some S15)) (fun j13 => if ((32 : Int32)) ≤ v8 then (j13 ()) else (if v7 ≤ 0 then (j13 ()) else (zz_gd (!(((2 : Int32)) == 0)) (zz_let ((v7 - ((1 : Int32))) / ((2 : Int32))) (fun x16 => zz_gd (zz_in x16 z) (zz_gd (zz_in (zz_ga S9 19 x16.toNatClampNeg) z) (zz_gd (zz_in p1 z) (if 0 < (lg_cmp (zz_gA S9 17 (zz_ga S9 19 x16.toNatClampNeg).toNatClampNeg) (zz_gA S9 17 p1.toNatClampNeg)) then (zz_gd (zz_in x16 z) (zz_b1 (zf_X0_seatAt N z S9 v7 (zz_ga S9 19 x16.toNatClampNeg)) (fun S17 => zz_let x16 (fun x18 => zz_let (v8 + (1 : Int32)) (fun x19 => rc10 x18 x19 S17))))) else (j13 ())))))))))) N v2 x6 S3)) (fun j4 => if x1 = ((-1 : Int32)) then (if (zz_gi S 8) < (nI z) then (zz_let (zz_gi S 8) (fun x20 => zz_let (zz_si S 8 ((zz_gi S 8) + ((1 : Int32)))) (fun S21 => j4 x20 S21))) else (some S)) else (j4 x1 S))))
theorem zi_X0_put_X0 : ∀ w ∈ wsX00, w ∈ wsX0_put := by decide +kernel
theorem zm_X0_put_19 : Cond.fieldLink RX0 19 "GridRipUp$Frontier" "seat" "[I" ∈ wsX0_put := by decide +kernel
theorem zm_X0_put_9 : Cond.fieldLink RX0 9 "GridRipUp$Frontier" "distance" "[J" ∈ wsX0_put := by decide +kernel
theorem zm_X0_put_15 : Cond.fieldLink RX0 15 "GridRipUp$Frontier" "heap" "[I" ∈ wsX0_put := by decide +kernel
theorem zm_X0_put_22 : Cond.fieldLink RX0 22 "GridRipUp$Frontier" "size" "I" ∈ wsX0_put := by decide +kernel
theorem zd_X0_put : yX0_put.cls = RX0 ∧ yX0_put.cls ≠ "java/lang/invoke/MethodHandle" ∧ yX0_put.cls ≠ "java/lang/invoke/VarHandle" ∧ (parseMethodDescriptor yX0_put.desc).map (fun d => d.parameters.length) = some 1 := by decide +kernel
set_option maxHeartbeats 4000000 in
set_option maxRecDepth 100000 in
theorem zc_X0_put (N : Nat) (l : Launch) (D : va_G) (k : Nat → ClassId) {a : Nat → Nat} {z : Nat} (S : zz_St) (p1 : Int32)  (u : zz_St) (h : zf_X0_put N z S p1 = some u) : zz_MV l yX0_put wsX0_put ({ frames := 1, cells := 0, slots := 0, locals := 22 } : Room) D k (zz_wC a k z) [.ref (a 5), .int p1] S u := by
  refine zz_metV (cc := cX0_put) (nL := 5) (by decide) rfl (Nat.le_of_ble_eq_true rfl) ?_
  intro X C hret
  have C : zz_ok X cX0_put RX0 wsX0_put k 5 ({ frames := 1, cells := 0, slots := 0, locals := 22 } : Room) := C
  unfold zf_X0_put at h
  show zz_ww X (0, 0) (zz_wC a k z S) 0 [(0, .ref (a 5)), (1, .int p1)] []
  refine zr_aln C 0 dX0_put_0 rfl rfl rfl ?_
  refine zg_X0_2 C zi_X0_put_X0 zm_X0_put_19 dX0_put_1 rfl ?_
  refine zr_iln C 1 dX0_put_4 rfl rfl rfl ?_
  refine zl_C20 C dX0_put_5 rfl h (fun h => ?_)
  refine zr_isn C [1, 2, 0] dX0_put_6 rfl rfl (by decide) (fun x1 => [(0, .ref (a 5)), (1, .int p1), (2, .int x1)]) h (fun _ => rfl) (fun x1 h => ?_)
  refine zr_iln C 2 dX0_put_7 rfl rfl rfl ?_
  refine zr_ic (v := (-1 : Int32)) C dX0_put_8 (by decide) rfl ?_
  refine zz_jn2_W h (fun (v2 : Int32) (S3 : zz_St) => zz_ww X (0, 0) (zz_wC a k z S3) 40 [(0, .ref (a 5)), (1, .int p1), (2, .int v2)] []) ?_ ?_
  · intro v2 S3 h
    refine zr_ic (v := (0 : Int32)) C dX0_put_40 (by decide) rfl ?_
    refine zr_isn C [1, 2, 3, 0] dX0_put_41 rfl rfl (by decide) (fun x6 => [(0, .ref (a 5)), (1, .int p1), (2, .int v2), (3, .int x6)]) h (fun _ => rfl) (fun x6 h => ?_)
    refine zz_fix3_W (fun (v7 : Int32) (v8 : Int32) (S9 : zz_St) => zz_ww X (0, 0) (zz_wC a k z S9) 42 [(0, .ref (a 5)), (1, .int p1), (2, .int v7), (3, .int v8)] []) ?_ N v2 x6 S3 h
    intro rc10 hr11 v7 v8 S9 h
    refine zr_iln C 3 dX0_put_42 rfl rfl rfl ?_
    refine zr_bi (v := (32 : Int32)) C dX0_put_43 (by decide) rfl ?_
    refine zz_jn1_W h (fun (u12 : Unit) => zz_ww X (0, 0) (zz_wC a k z S9) 105 [(0, .ref (a 5)), (1, .int p1), (2, .int v7)] []) ?_ ?_
    · intro u12 h
      refine zr_aln C 0 dX0_put_105 rfl rfl rfl ?_
      refine zr_iln C 2 dX0_put_106 rfl rfl rfl ?_
      refine zr_iln C 1 dX0_put_107 rfl rfl rfl ?_
      refine zr_cVv (wf := (zz_wC a k z)) (st := []) C (fun l D u hu => zc_X0_seatAt N l D k (a := a) (z := z) S9 v7 p1 u hu) gX0_put_X0_seatAt rfl zd_X0_seatAt ⟨by decide, by decide⟩ ⟨by decide, by decide⟩ rfl ⟨5, 0, _, _, _, zk_C5, rfl⟩ (Nat.le_of_ble_eq_true rfl) rfl dX0_put_108 rfl rfl h (fun S15 _ h => ?_)
      exact hret S15 111 _ (0, 0) (by decide) (by decide) dX0_put_111 h
    intro j13 hj14 h
    refine zr_icmp_ge (tgt := 105) C dX0_put_45 (by decide) rfl h (fun h => ?_) (fun h => ?_)
    · refine zr_sub [0, 1, 2] rfl ?_
      exact hj14 () h
    · refine zr_iln C 2 dX0_put_48 rfl rfl rfl ?_
      refine zr_if_le (tgt := 105) C dX0_put_49 (by decide) rfl h (fun h => ?_) (fun h => ?_)
      · refine zr_sub [0, 1, 2] rfl ?_
        exact hj14 () h
      · refine zr_iln C 2 dX0_put_52 rfl rfl rfl ?_
        refine zr_ic (v := (1 : Int32)) C dX0_put_53 (by decide) rfl ?_
        refine zr_isub C dX0_put_54 rfl ?_
        refine zr_ic (v := (2 : Int32)) C dX0_put_55 (by decide) rfl ?_
        refine zr_idiv C dX0_put_56 rfl h (fun h => ?_)
        refine zr_is C [1, 2, 3, 4, 0] dX0_put_57 rfl (by decide) (fun x16 => [(0, .ref (a 5)), (1, .int p1), (2, .int v7), (3, .int v8), (4, .int x16)]) h (fun _ => rfl) (fun x16 h => ?_)
        refine zr_aln C 0 dX0_put_59 rfl rfl rfl ?_
        refine zg_X0_0 C zi_X0_put_X0 zm_X0_put_9 dX0_put_60 rfl ?_
        refine zr_aln C 0 dX0_put_63 rfl rfl rfl ?_
        refine zg_X0_1 C zi_X0_put_X0 zm_X0_put_15 dX0_put_64 rfl ?_
        refine zr_il C 4 dX0_put_67 rfl rfl ?_
        refine zl_C19 C dX0_put_69 rfl h (fun h => ?_)
        refine zl_C17 C dX0_put_70 rfl h (fun h => ?_)
        refine zr_aln C 0 dX0_put_71 rfl rfl rfl ?_
        refine zg_X0_0 C zi_X0_put_X0 zm_X0_put_9 dX0_put_72 rfl ?_
        refine zr_iln C 1 dX0_put_75 rfl rfl rfl ?_
        refine zl_C17 C dX0_put_76 rfl h (fun h => ?_)
        refine zr_lcmp C dX0_put_77 rfl ?_
        refine zr_if_gt (tgt := 84) C dX0_put_78 (by decide) rfl h (fun h => ?_) (fun h => ?_)
        · refine zr_aln C 0 dX0_put_84 rfl rfl rfl ?_
          refine zr_iln C 2 dX0_put_85 rfl rfl rfl ?_
          refine zr_aln C 0 dX0_put_86 rfl rfl rfl ?_
          refine zg_X0_1 C zi_X0_put_X0 zm_X0_put_15 dX0_put_87 rfl ?_
          refine zr_il C 4 dX0_put_90 rfl rfl ?_
          refine zl_C19 C dX0_put_92 rfl h (fun h => ?_)
          refine zr_cVv (wf := (zz_wC a k z)) (st := []) C (fun l D u hu => zc_X0_seatAt N l D k (a := a) (z := z) S9 v7 (zz_ga S9 19 x16.toNatClampNeg) u hu) gX0_put_X0_seatAt rfl zd_X0_seatAt ⟨by decide, by decide⟩ ⟨by decide, by decide⟩ rfl ⟨5, 0, _, _, _, zk_C5, rfl⟩ (Nat.le_of_ble_eq_true rfl) rfl dX0_put_93 rfl rfl h (fun S17 _ h => ?_)
          refine zr_il C 4 dX0_put_96 rfl rfl ?_
          refine zr_isn C [1, 2, 0, 3, 4] dX0_put_98 rfl rfl (by decide) (fun x18 => [(0, .ref (a 5)), (1, .int p1), (2, .int x18), (3, .int v8), (4, .int x16)]) h (fun _ => rfl) (fun x18 h => ?_)
          refine zr_iinc (v := (1 : Int32)) C 3 [1, 2, 3, 0, 4] dX0_put_99 rfl (by decide) rfl (by decide) (fun x19 => [(0, .ref (a 5)), (1, .int p1), (2, .int x18), (3, .int x19), (4, .int x16)]) h (fun _ => rfl) (fun x19 h => ?_)
          refine zr_goto (tgt := 42) C dX0_put_102 (by decide) ?_
          refine zr_sub [0, 1, 2, 3] rfl ?_
          exact hr11 x18 x19 S17 h
        · refine zr_goto (tgt := 105) C dX0_put_81 (by decide) ?_
          refine zr_sub [0, 1, 2] rfl ?_
          exact hj14 () h
  intro j4 hj5 h
  refine zr_icmp_ne (tgt := 40) C dX0_put_9 (by decide) rfl h (fun h => ?_) (fun h => ?_)
  · exact hj5 x1 S h
  · refine zr_aln C 0 dX0_put_12 rfl rfl rfl ?_
    refine zg_X0_3 C zi_X0_put_X0 zm_X0_put_22 dX0_put_13 rfl ?_
    refine zr_aln C 0 dX0_put_16 rfl rfl rfl ?_
    refine zg_X0_1 C zi_X0_put_X0 zm_X0_put_15 dX0_put_17 rfl ?_
    refine zn_C19 C dX0_put_20 rfl ?_
    refine zr_icmp_lt (tgt := 25) C dX0_put_21 (by decide) rfl h (fun h => ?_) (fun h => ?_)
    · refine zr_aln C 0 dX0_put_25 rfl rfl rfl ?_
      refine zg_X0_3 C zi_X0_put_X0 zm_X0_put_22 dX0_put_26 rfl ?_
      refine zr_isn C [1, 2, 0] dX0_put_29 rfl rfl (by decide) (fun x20 => [(0, .ref (a 5)), (1, .int p1), (2, .int x20)]) h (fun _ => rfl) (fun x20 h => ?_)
      refine zr_aln C 0 dX0_put_30 rfl rfl rfl ?_
      refine zr_dup C dX0_put_31 rfl rfl ?_
      refine zg_X0_3 C zi_X0_put_X0 zm_X0_put_22 dX0_put_32 rfl ?_
      refine zr_ic (v := (1 : Int32)) C dX0_put_35 (by decide) rfl ?_
      refine zr_iadd C dX0_put_36 rfl ?_
      refine zp_X0_3 C zi_X0_put_X0 zm_X0_put_22 dX0_put_37 rfl h (fun S21 h => ?_)
      exact hj5 x20 S21 h
    · exact hret S 24 _ (0, 0) (by decide) (by decide) dX0_put_24 h

def zf_X0_sinkFromTop (N : Nat) (z : Nat) (S : zz_St) (p1 : Int32) : Option zz_St := zz_let ((0 : Int32)) (fun x1 => zz_let ((0 : Int32)) (fun x2 => zz_fix3 (fun rc6 (v3 : Int32) (v4 : Int32) (S5 : zz_St) => zz_jn1 (fun (u8 : Unit) => zz_b1 (zf_X0_seatAt N z S5 v3 p1) (fun S11 => some S11)) (fun j9 => if ((32 : Int32)) ≤ v4 then (j9 ()) else (if (zz_gi S5 8) ≤ ((((2 : Int32)) * v3) + ((1 : Int32))) then (j9 ()) else (zz_let ((((2 : Int32)) * v3) + ((1 : Int32))) (fun x12 => zz_jn1 (fun (v13 : Int32) => zz_gd (zz_in p1 z) (zz_gd (zz_in v13 z) (zz_gd (zz_in (zz_ga S5 19 v13.toNatClampNeg) z) (if 0 < (lg_cmp (zz_gA S5 17 p1.toNatClampNeg) (zz_gA S5 17 (zz_ga S5 19 v13.toNatClampNeg).toNatClampNeg)) then (zz_gd (zz_in v13 z) (zz_b1 (zf_X0_seatAt N z S5 v3 (zz_ga S5 19 v13.toNatClampNeg)) (fun S16 => zz_let v13 (fun x17 => zz_let (v4 + (1 : Int32)) (fun x18 => rc6 x17 x18 S16))))) else (j9 ()))))) (fun j14 => if (zz_gi S5 8) ≤ (x12 + ((1 : Int32))) then (j14 x12) else (zz_gd (zz_in (x12 + ((1 : Int32))) z) (zz_gd (zz_in (zz_ga S5 19 (x12 + ((1 : Int32))).toNatClampNeg) z) (zz_gd (zz_in x12 z) (zz_gd (zz_in (zz_ga S5 19 x12.toNatClampNeg) z) (if 0 ≤ (lg_cmp (zz_gA S5 17 (zz_ga S5 19 (x12 + ((1 : Int32))).toNatClampNeg).toNatClampNeg) (zz_gA S5 17 (zz_ga S5 19 x12.toNatClampNeg).toNatClampNeg)) then (j14 x12) else (zz_let (x12 + (1 : Int32)) (fun x19 => j14 x19))))))))))))) N x1 x2 S))
theorem zi_X0_sinkFromTop_X0 : ∀ w ∈ wsX00, w ∈ wsX0_sinkFromTop := by decide +kernel
theorem zm_X0_sinkFromTop_22 : Cond.fieldLink RX0 22 "GridRipUp$Frontier" "size" "I" ∈ wsX0_sinkFromTop := by decide +kernel
theorem zm_X0_sinkFromTop_9 : Cond.fieldLink RX0 9 "GridRipUp$Frontier" "distance" "[J" ∈ wsX0_sinkFromTop := by decide +kernel
theorem zm_X0_sinkFromTop_15 : Cond.fieldLink RX0 15 "GridRipUp$Frontier" "heap" "[I" ∈ wsX0_sinkFromTop := by decide +kernel
theorem zd_X0_sinkFromTop : yX0_sinkFromTop.cls = RX0 ∧ yX0_sinkFromTop.cls ≠ "java/lang/invoke/MethodHandle" ∧ yX0_sinkFromTop.cls ≠ "java/lang/invoke/VarHandle" ∧ (parseMethodDescriptor yX0_sinkFromTop.desc).map (fun d => d.parameters.length) = some 1 := by decide +kernel
set_option maxHeartbeats 4000000 in
set_option maxRecDepth 100000 in
theorem zc_X0_sinkFromTop (N : Nat) (l : Launch) (D : va_G) (k : Nat → ClassId) {a : Nat → Nat} {z : Nat} (S : zz_St) (p1 : Int32)  (u : zz_St) (h : zf_X0_sinkFromTop N z S p1 = some u) : zz_MV l yX0_sinkFromTop wsX0_sinkFromTop ({ frames := 1, cells := 0, slots := 0, locals := 22 } : Room) D k (zz_wC a k z) [.ref (a 5), .int p1] S u := by
  refine zz_metV (cc := cX0_sinkFromTop) (nL := 5) (by decide) rfl (Nat.le_of_ble_eq_true rfl) ?_
  intro X C hret
  have C : zz_ok X cX0_sinkFromTop RX0 wsX0_sinkFromTop k 5 ({ frames := 1, cells := 0, slots := 0, locals := 22 } : Room) := C
  unfold zf_X0_sinkFromTop at h
  show zz_ww X (0, 0) (zz_wC a k z S) 0 [(0, .ref (a 5)), (1, .int p1)] []
  refine zr_ic (v := (0 : Int32)) C dX0_sinkFromTop_0 (by decide) rfl ?_
  refine zr_isn C [1, 2, 0] dX0_sinkFromTop_1 rfl rfl (by decide) (fun x1 => [(0, .ref (a 5)), (1, .int p1), (2, .int x1)]) h (fun _ => rfl) (fun x1 h => ?_)
  refine zr_ic (v := (0 : Int32)) C dX0_sinkFromTop_2 (by decide) rfl ?_
  refine zr_isn C [1, 2, 3, 0] dX0_sinkFromTop_3 rfl rfl (by decide) (fun x2 => [(0, .ref (a 5)), (1, .int p1), (2, .int x1), (3, .int x2)]) h (fun _ => rfl) (fun x2 h => ?_)
  refine zz_fix3_W (fun (v3 : Int32) (v4 : Int32) (S5 : zz_St) => zz_ww X (0, 0) (zz_wC a k z S5) 4 [(0, .ref (a 5)), (1, .int p1), (2, .int v3), (3, .int v4)] []) ?_ N x1 x2 S h
  intro rc6 hr7 v3 v4 S5 h
  refine zr_iln C 3 dX0_sinkFromTop_4 rfl rfl rfl ?_
  refine zr_bi (v := (32 : Int32)) C dX0_sinkFromTop_5 (by decide) rfl ?_
  refine zz_jn1_W h (fun (u8 : Unit) => zz_ww X (0, 0) (zz_wC a k z S5) 119 [(0, .ref (a 5)), (1, .int p1), (2, .int v3)] []) ?_ ?_
  · intro u8 h
    refine zr_aln C 0 dX0_sinkFromTop_119 rfl rfl rfl ?_
    refine zr_iln C 2 dX0_sinkFromTop_120 rfl rfl rfl ?_
    refine zr_iln C 1 dX0_sinkFromTop_121 rfl rfl rfl ?_
    refine zr_cVv (wf := (zz_wC a k z)) (st := []) C (fun l D u hu => zc_X0_seatAt N l D k (a := a) (z := z) S5 v3 p1 u hu) gX0_sinkFromTop_X0_seatAt rfl zd_X0_seatAt ⟨by decide, by decide⟩ ⟨by decide, by decide⟩ rfl ⟨5, 0, _, _, _, zk_C5, rfl⟩ (Nat.le_of_ble_eq_true rfl) rfl dX0_sinkFromTop_122 rfl rfl h (fun S11 _ h => ?_)
    exact hret S11 125 _ (0, 0) (by decide) (by decide) dX0_sinkFromTop_125 h
  intro j9 hj10 h
  refine zr_icmp_ge (tgt := 119) C dX0_sinkFromTop_7 (by decide) rfl h (fun h => ?_) (fun h => ?_)
  · refine zr_sub [0, 1, 2] rfl ?_
    exact hj10 () h
  · refine zr_ic (v := (2 : Int32)) C dX0_sinkFromTop_10 (by decide) rfl ?_
    refine zr_iln C 2 dX0_sinkFromTop_11 rfl rfl rfl ?_
    refine zr_imul C dX0_sinkFromTop_12 rfl ?_
    refine zr_ic (v := (1 : Int32)) C dX0_sinkFromTop_13 (by decide) rfl ?_
    refine zr_iadd C dX0_sinkFromTop_14 rfl ?_
    refine zr_aln C 0 dX0_sinkFromTop_15 rfl rfl rfl ?_
    refine zg_X0_3 C zi_X0_sinkFromTop_X0 zm_X0_sinkFromTop_22 dX0_sinkFromTop_16 rfl ?_
    refine zr_icmp_ge (tgt := 119) C dX0_sinkFromTop_19 (by decide) rfl h (fun h => ?_) (fun h => ?_)
    · refine zr_sub [0, 1, 2] rfl ?_
      exact hj10 () h
    · refine zr_ic (v := (2 : Int32)) C dX0_sinkFromTop_22 (by decide) rfl ?_
      refine zr_iln C 2 dX0_sinkFromTop_23 rfl rfl rfl ?_
      refine zr_imul C dX0_sinkFromTop_24 rfl ?_
      refine zr_ic (v := (1 : Int32)) C dX0_sinkFromTop_25 (by decide) rfl ?_
      refine zr_iadd C dX0_sinkFromTop_26 rfl ?_
      refine zr_is C [1, 2, 3, 4, 0] dX0_sinkFromTop_27 rfl (by decide) (fun x12 => [(0, .ref (a 5)), (1, .int p1), (2, .int v3), (3, .int v4), (4, .int x12)]) h (fun _ => rfl) (fun x12 h => ?_)
      refine zr_il C 4 dX0_sinkFromTop_29 rfl rfl ?_
      refine zr_ic (v := (1 : Int32)) C dX0_sinkFromTop_31 (by decide) rfl ?_
      refine zr_iadd C dX0_sinkFromTop_32 rfl ?_
      refine zr_aln C 0 dX0_sinkFromTop_33 rfl rfl rfl ?_
      refine zg_X0_3 C zi_X0_sinkFromTop_X0 zm_X0_sinkFromTop_22 dX0_sinkFromTop_34 rfl ?_
      refine zz_jn1_W h (fun (v13 : Int32) => zz_ww X (0, 0) (zz_wC a k z S5) 73 [(0, .ref (a 5)), (1, .int p1), (2, .int v3), (3, .int v4), (4, .int v13)] []) ?_ ?_
      · intro v13 h
        refine zr_aln C 0 dX0_sinkFromTop_73 rfl rfl rfl ?_
        refine zg_X0_0 C zi_X0_sinkFromTop_X0 zm_X0_sinkFromTop_9 dX0_sinkFromTop_74 rfl ?_
        refine zr_iln C 1 dX0_sinkFromTop_77 rfl rfl rfl ?_
        refine zl_C17 C dX0_sinkFromTop_78 rfl h (fun h => ?_)
        refine zr_aln C 0 dX0_sinkFromTop_79 rfl rfl rfl ?_
        refine zg_X0_0 C zi_X0_sinkFromTop_X0 zm_X0_sinkFromTop_9 dX0_sinkFromTop_80 rfl ?_
        refine zr_aln C 0 dX0_sinkFromTop_83 rfl rfl rfl ?_
        refine zg_X0_1 C zi_X0_sinkFromTop_X0 zm_X0_sinkFromTop_15 dX0_sinkFromTop_84 rfl ?_
        refine zr_il C 4 dX0_sinkFromTop_87 rfl rfl ?_
        refine zl_C19 C dX0_sinkFromTop_89 rfl h (fun h => ?_)
        refine zl_C17 C dX0_sinkFromTop_90 rfl h (fun h => ?_)
        refine zr_lcmp C dX0_sinkFromTop_91 rfl ?_
        refine zr_if_gt (tgt := 98) C dX0_sinkFromTop_92 (by decide) rfl h (fun h => ?_) (fun h => ?_)
        · refine zr_aln C 0 dX0_sinkFromTop_98 rfl rfl rfl ?_
          refine zr_iln C 2 dX0_sinkFromTop_99 rfl rfl rfl ?_
          refine zr_aln C 0 dX0_sinkFromTop_100 rfl rfl rfl ?_
          refine zg_X0_1 C zi_X0_sinkFromTop_X0 zm_X0_sinkFromTop_15 dX0_sinkFromTop_101 rfl ?_
          refine zr_il C 4 dX0_sinkFromTop_104 rfl rfl ?_
          refine zl_C19 C dX0_sinkFromTop_106 rfl h (fun h => ?_)
          refine zr_cVv (wf := (zz_wC a k z)) (st := []) C (fun l D u hu => zc_X0_seatAt N l D k (a := a) (z := z) S5 v3 (zz_ga S5 19 v13.toNatClampNeg) u hu) gX0_sinkFromTop_X0_seatAt rfl zd_X0_seatAt ⟨by decide, by decide⟩ ⟨by decide, by decide⟩ rfl ⟨5, 0, _, _, _, zk_C5, rfl⟩ (Nat.le_of_ble_eq_true rfl) rfl dX0_sinkFromTop_107 rfl rfl h (fun S16 _ h => ?_)
          refine zr_il C 4 dX0_sinkFromTop_110 rfl rfl ?_
          refine zr_isn C [1, 2, 0, 3, 4] dX0_sinkFromTop_112 rfl rfl (by decide) (fun x17 => [(0, .ref (a 5)), (1, .int p1), (2, .int x17), (3, .int v4), (4, .int v13)]) h (fun _ => rfl) (fun x17 h => ?_)
          refine zr_iinc (v := (1 : Int32)) C 3 [1, 2, 3, 0, 4] dX0_sinkFromTop_113 rfl (by decide) rfl (by decide) (fun x18 => [(0, .ref (a 5)), (1, .int p1), (2, .int x17), (3, .int x18), (4, .int v13)]) h (fun _ => rfl) (fun x18 h => ?_)
          refine zr_goto (tgt := 4) C dX0_sinkFromTop_116 (by decide) ?_
          refine zr_sub [0, 1, 2, 3] rfl ?_
          exact hr7 x17 x18 S16 h
        · refine zr_goto (tgt := 119) C dX0_sinkFromTop_95 (by decide) ?_
          refine zr_sub [0, 1, 2] rfl ?_
          exact hj10 () h
      intro j14 hj15 h
      refine zr_icmp_ge (tgt := 73) C dX0_sinkFromTop_37 (by decide) rfl h (fun h => ?_) (fun h => ?_)
      · exact hj15 x12 h
      · refine zr_aln C 0 dX0_sinkFromTop_40 rfl rfl rfl ?_
        refine zg_X0_0 C zi_X0_sinkFromTop_X0 zm_X0_sinkFromTop_9 dX0_sinkFromTop_41 rfl ?_
        refine zr_aln C 0 dX0_sinkFromTop_44 rfl rfl rfl ?_
        refine zg_X0_1 C zi_X0_sinkFromTop_X0 zm_X0_sinkFromTop_15 dX0_sinkFromTop_45 rfl ?_
        refine zr_il C 4 dX0_sinkFromTop_48 rfl rfl ?_
        refine zr_ic (v := (1 : Int32)) C dX0_sinkFromTop_50 (by decide) rfl ?_
        refine zr_iadd C dX0_sinkFromTop_51 rfl ?_
        refine zl_C19 C dX0_sinkFromTop_52 rfl h (fun h => ?_)
        refine zl_C17 C dX0_sinkFromTop_53 rfl h (fun h => ?_)
        refine zr_aln C 0 dX0_sinkFromTop_54 rfl rfl rfl ?_
        refine zg_X0_0 C zi_X0_sinkFromTop_X0 zm_X0_sinkFromTop_9 dX0_sinkFromTop_55 rfl ?_
        refine zr_aln C 0 dX0_sinkFromTop_58 rfl rfl rfl ?_
        refine zg_X0_1 C zi_X0_sinkFromTop_X0 zm_X0_sinkFromTop_15 dX0_sinkFromTop_59 rfl ?_
        refine zr_il C 4 dX0_sinkFromTop_62 rfl rfl ?_
        refine zl_C19 C dX0_sinkFromTop_64 rfl h (fun h => ?_)
        refine zl_C17 C dX0_sinkFromTop_65 rfl h (fun h => ?_)
        refine zr_lcmp C dX0_sinkFromTop_66 rfl ?_
        refine zr_if_ge (tgt := 73) C dX0_sinkFromTop_67 (by decide) rfl h (fun h => ?_) (fun h => ?_)
        · exact hj15 x12 h
        · refine zr_iinc (v := (1 : Int32)) C 4 [1, 2, 3, 4, 0] dX0_sinkFromTop_70 rfl (by decide) rfl (by decide) (fun x19 => [(0, .ref (a 5)), (1, .int p1), (2, .int v3), (3, .int v4), (4, .int x19)]) h (fun _ => rfl) (fun x19 h => ?_)
          exact hj15 x19 h

def zf_X0_takeNearest (N : Nat) (z : Nat) (S : zz_St)  : Option (Int32 × zz_St) := zz_gd (zz_in ((0 : Int32)) z) (zz_let (zz_ga S 19 ((0 : Int32)).toNatClampNeg) (fun x1 => zz_gd (zz_in x1 z) (zz_let (zz_sa S 20 (upd (zz_ga S 20) x1.toNatClampNeg ((-1 : Int32)))) (fun S2 => zz_jn1 (fun (S3 : zz_St) => zz_jn1 (fun (S6 : zz_St) => some (x1, S6)) (fun j7 => if (zz_gi S3 8) ≤ 0 then (j7 S3) else (zz_gd (zz_in (zz_gi S3 8) z) (zz_b1 (zf_X0_sinkFromTop N z S3 (zz_ga S3 19 (zz_gi S3 8).toNatClampNeg)) (fun S9 => j7 S9))))) (fun j4 => if (zz_gi S2 8) ≤ 0 then (j4 S2) else (zz_let (zz_si S2 8 ((zz_gi S2 8) - ((1 : Int32)))) (fun S10 => j4 S10)))))))
theorem zi_X0_takeNearest_X0 : ∀ w ∈ wsX00, w ∈ wsX0_takeNearest := by decide +kernel
theorem zm_X0_takeNearest_15 : Cond.fieldLink RX0 15 "GridRipUp$Frontier" "heap" "[I" ∈ wsX0_takeNearest := by decide +kernel
theorem zm_X0_takeNearest_19 : Cond.fieldLink RX0 19 "GridRipUp$Frontier" "seat" "[I" ∈ wsX0_takeNearest := by decide +kernel
theorem zm_X0_takeNearest_22 : Cond.fieldLink RX0 22 "GridRipUp$Frontier" "size" "I" ∈ wsX0_takeNearest := by decide +kernel
theorem zd_X0_takeNearest : yX0_takeNearest.cls = RX0 ∧ yX0_takeNearest.cls ≠ "java/lang/invoke/MethodHandle" ∧ yX0_takeNearest.cls ≠ "java/lang/invoke/VarHandle" ∧ (parseMethodDescriptor yX0_takeNearest.desc).map (fun d => d.parameters.length) = some 0 := by decide +kernel
set_option maxHeartbeats 4000000 in
set_option maxRecDepth 100000 in
theorem zc_X0_takeNearest (N : Nat) (l : Launch) (D : va_G) (k : Nat → ClassId) {a : Nat → Nat} {z : Nat} (S : zz_St)   (v : Int32) (u : zz_St) (h : zf_X0_takeNearest N z S  = some (v, u)) : zz_MI l yX0_takeNearest wsX0_takeNearest ({ frames := 2, cells := 0, slots := 0, locals := 46 } : Room) D k (zz_wC a k z) [.ref (a 5)] S (v, u) := by
  refine zz_metI (cc := cX0_takeNearest) (nL := 2) (ty := .int) (by decide) rfl (Nat.le_of_ble_eq_true rfl) ?_
  intro X C hret
  have C : zz_ok X cX0_takeNearest RX0 wsX0_takeNearest k 2 ({ frames := 2, cells := 0, slots := 0, locals := 46 } : Room) := C
  unfold zf_X0_takeNearest at h
  show zz_ww X (0, 0) (zz_wC a k z S) 0 [(0, .ref (a 5))] []
  refine zr_aln C 0 dX0_takeNearest_0 rfl rfl rfl ?_
  refine zg_X0_1 C zi_X0_takeNearest_X0 zm_X0_takeNearest_15 dX0_takeNearest_1 rfl ?_
  refine zr_ic (v := (0 : Int32)) C dX0_takeNearest_4 (by decide) rfl ?_
  refine zl_C19 C dX0_takeNearest_5 rfl h (fun h => ?_)
  refine zr_isn C [1, 0] dX0_takeNearest_6 rfl rfl (by decide) (fun x1 => [(0, .ref (a 5)), (1, .int x1)]) h (fun _ => rfl) (fun x1 h => ?_)
  refine zr_aln C 0 dX0_takeNearest_7 rfl rfl rfl ?_
  refine zg_X0_2 C zi_X0_takeNearest_X0 zm_X0_takeNearest_19 dX0_takeNearest_8 rfl ?_
  refine zr_iln C 1 dX0_takeNearest_11 rfl rfl rfl ?_
  refine zr_ic (v := (-1 : Int32)) C dX0_takeNearest_12 (by decide) rfl ?_
  refine zs_C20 C dX0_takeNearest_13 rfl h (fun S2 h => ?_)
  refine zr_aln C 0 dX0_takeNearest_14 rfl rfl rfl ?_
  refine zg_X0_3 C zi_X0_takeNearest_X0 zm_X0_takeNearest_22 dX0_takeNearest_15 rfl ?_
  refine zz_jn1_W h (fun (S3 : zz_St) => zz_ww X (0, 0) (zz_wC a k z S3) 31 [(0, .ref (a 5)), (1, .int x1)] []) ?_ ?_
  · intro S3 h
    refine zr_aln C 0 dX0_takeNearest_31 rfl rfl rfl ?_
    refine zg_X0_3 C zi_X0_takeNearest_X0 zm_X0_takeNearest_22 dX0_takeNearest_32 rfl ?_
    refine zz_jn1_W h (fun (S6 : zz_St) => zz_ww X (0, 0) (zz_wC a k z S6) 51 [(1, .int x1)] []) ?_ ?_
    · intro S6 h
      refine zr_iln C 0 dX0_takeNearest_51 rfl rfl rfl ?_
      exact hret x1 S6 52 _ (0, 0) (by decide) (by decide) dX0_takeNearest_52 rfl h
    intro j7 hj8 h
    refine zr_if_le (tgt := 51) C dX0_takeNearest_35 (by decide) rfl h (fun h => ?_) (fun h => ?_)
    · refine zr_sub [1] rfl ?_
      exact hj8 S3 h
    · refine zr_aln C 0 dX0_takeNearest_38 rfl rfl rfl ?_
      refine zr_aln C 0 dX0_takeNearest_39 rfl rfl rfl ?_
      refine zg_X0_1 C zi_X0_takeNearest_X0 zm_X0_takeNearest_15 dX0_takeNearest_40 rfl ?_
      refine zr_aln C 0 dX0_takeNearest_43 rfl rfl rfl ?_
      refine zg_X0_3 C zi_X0_takeNearest_X0 zm_X0_takeNearest_22 dX0_takeNearest_44 rfl ?_
      refine zl_C19 C dX0_takeNearest_47 rfl h (fun h => ?_)
      refine zr_cVv (wf := (zz_wC a k z)) (st := []) C (fun l D u hu => zc_X0_sinkFromTop N l D k (a := a) (z := z) S3 (zz_ga S3 19 (zz_gi S3 8).toNatClampNeg) u hu) gX0_takeNearest_X0_sinkFromTop rfl zd_X0_sinkFromTop ⟨by decide, by decide⟩ ⟨by decide, by decide⟩ rfl ⟨5, 0, _, _, _, zk_C5, rfl⟩ (Nat.le_of_ble_eq_true rfl) rfl dX0_takeNearest_48 rfl rfl h (fun S9 _ h => ?_)
      refine zr_sub [1] rfl ?_
      exact hj8 S9 h
  intro j4 hj5 h
  refine zr_if_le (tgt := 31) C dX0_takeNearest_18 (by decide) rfl h (fun h => ?_) (fun h => ?_)
  · exact hj5 S2 h
  · refine zr_aln C 0 dX0_takeNearest_21 rfl rfl rfl ?_
    refine zr_dup C dX0_takeNearest_22 rfl rfl ?_
    refine zg_X0_3 C zi_X0_takeNearest_X0 zm_X0_takeNearest_22 dX0_takeNearest_23 rfl ?_
    refine zr_ic (v := (1 : Int32)) C dX0_takeNearest_26 (by decide) rfl ?_
    refine zr_isub C dX0_takeNearest_27 rfl ?_
    refine zp_X0_3 C zi_X0_takeNearest_X0 zm_X0_takeNearest_22 dX0_takeNearest_28 rfl h (fun S10 h => ?_)
    exact hj5 S10 h

def zf_X1_has (N : Nat) (z : Nat) (S : zz_St) (p1 : Int32) (p2 : Int32) (p3 : Int32) : Option Int32 := zz_jn1 (fun (v1 : Int32) => zz_gd (zz_bl v1) (some (v1))) (fun j2 => zz_jn1 (fun (u4 : Unit) => j2 ((0 : Int32))) (fun j5 => if p1 < 0 then (j5 ()) else (if (zz_gi S 4) ≤ p1 then (j5 ()) else (if p2 < 0 then (j5 ()) else (if (zz_gi S 2) ≤ p2 then (j5 ()) else (if p3 < 0 then (j5 ()) else (if (zz_gi S 3) ≤ p3 then (j5 ()) else (j2 ((1 : Int32))))))))))
theorem zi_X1_has_X1 : ∀ w ∈ wsX10, w ∈ wsX1_has := by decide +kernel
theorem zm_X1_has_27 : Cond.fieldLink RX1 27 "GridRipUp$Grid" "layers" "I" ∈ wsX1_has := by decide +kernel
theorem zm_X1_has_20 : Cond.fieldLink RX1 20 "GridRipUp$Grid" "width" "I" ∈ wsX1_has := by decide +kernel
theorem zm_X1_has_24 : Cond.fieldLink RX1 24 "GridRipUp$Grid" "height" "I" ∈ wsX1_has := by decide +kernel
theorem zd_X1_has : yX1_has.cls = RX1 ∧ yX1_has.cls ≠ "java/lang/invoke/MethodHandle" ∧ yX1_has.cls ≠ "java/lang/invoke/VarHandle" ∧ (parseMethodDescriptor yX1_has.desc).map (fun d => d.parameters.length) = some 3 := by decide +kernel
set_option maxHeartbeats 4000000 in
set_option maxRecDepth 100000 in
theorem zc_X1_has (N : Nat) (l : Launch) (D : va_G) (k : Nat → ClassId) {a : Nat → Nat} {z : Nat} (S : zz_St) (p1 : Int32) (p2 : Int32) (p3 : Int32)  (v : Int32) (h : zf_X1_has N z S p1 p2 p3 = some v) : zz_MI l yX1_has wsX1_has ({ frames := 0, cells := 0, slots := 0, locals := 0 } : Room) D k (zz_wC a k z) [.ref (a 1), .int p1, .int p2, .int p3] S (v, S) := by
  refine zz_metI (cc := cX1_has) (nL := 4) (ty := .boolean) (by decide) rfl (Nat.le_of_ble_eq_true rfl) ?_
  intro X C hret
  have C : zz_ok X cX1_has RX1 wsX1_has k 4 ({ frames := 0, cells := 0, slots := 0, locals := 0 } : Room) := C
  unfold zf_X1_has at h
  show zz_ww X (0, 0) (zz_wC a k z S) 0 [(0, .ref (a 1)), (1, .int p1), (2, .int p2), (3, .int p3)] []
  refine zr_iln C 1 dX1_has_0 rfl rfl rfl ?_
  refine zz_jn1_W h (fun (v1 : Int32) => zz_ww X (0, 0) (zz_wC a k z S) 41 [] [.int v1]) ?_ ?_
  · intro v1 h
    obtain ⟨hb, h⟩ := zz_gd_some h
    exact hret v1 S 41 _ (0, 0) (by decide) (by decide) dX1_has_41 (zz_bl_nar hb) (zz_ro h)
  intro j2 hj3 h
  refine zz_jn1_W h (fun (u4 : Unit) => zz_ww X (0, 0) (zz_wC a k z S) 40 [] []) ?_ ?_
  · intro u4 h
    refine zr_ic (v := (0 : Int32)) C dX1_has_40 (by decide) rfl ?_
    exact hj3 ((0 : Int32)) h
  intro j5 hj6 h
  refine zr_if_lt (tgt := 40) C dX1_has_1 (by decide) rfl h (fun h => ?_) (fun h => ?_)
  · refine zr_sub [] rfl ?_
    exact hj6 () h
  · refine zr_iln C 1 dX1_has_4 rfl rfl rfl ?_
    refine zr_aln C 0 dX1_has_5 rfl rfl rfl ?_
    refine zg_X1_2 C zi_X1_has_X1 zm_X1_has_27 dX1_has_6 rfl ?_
    refine zr_icmp_ge (tgt := 40) C dX1_has_9 (by decide) rfl h (fun h => ?_) (fun h => ?_)
    · refine zr_sub [] rfl ?_
      exact hj6 () h
    · refine zr_iln C 2 dX1_has_12 rfl rfl rfl ?_
      refine zr_if_lt (tgt := 40) C dX1_has_13 (by decide) rfl h (fun h => ?_) (fun h => ?_)
      · refine zr_sub [] rfl ?_
        exact hj6 () h
      · refine zr_iln C 2 dX1_has_16 rfl rfl rfl ?_
        refine zr_aln C 0 dX1_has_17 rfl rfl rfl ?_
        refine zg_X1_0 C zi_X1_has_X1 zm_X1_has_20 dX1_has_18 rfl ?_
        refine zr_icmp_ge (tgt := 40) C dX1_has_21 (by decide) rfl h (fun h => ?_) (fun h => ?_)
        · refine zr_sub [] rfl ?_
          exact hj6 () h
        · refine zr_iln C 3 dX1_has_24 rfl rfl rfl ?_
          refine zr_if_lt (tgt := 40) C dX1_has_25 (by decide) rfl h (fun h => ?_) (fun h => ?_)
          · refine zr_sub [] rfl ?_
            exact hj6 () h
          · refine zr_iln C 3 dX1_has_28 rfl rfl rfl ?_
            refine zr_aln C 0 dX1_has_29 rfl rfl rfl ?_
            refine zg_X1_1 C zi_X1_has_X1 zm_X1_has_24 dX1_has_30 rfl ?_
            refine zr_icmp_ge (tgt := 40) C dX1_has_33 (by decide) rfl h (fun h => ?_) (fun h => ?_)
            · refine zr_sub [] rfl ?_
              exact hj6 () h
            · refine zr_ic (v := (1 : Int32)) C dX1_has_36 (by decide) rfl ?_
              refine zr_goto (tgt := 41) C dX1_has_37 (by decide) ?_
              refine zr_sub [] rfl ?_
              exact hj3 ((1 : Int32)) h

def zf_X1_numberOf (N : Nat) (z : Nat) (S : zz_St) (p1 : Int32) (p2 : Int32) (p3 : Int32) : Option Int32 := some ((((p1 * (zz_gi S 3)) + p3) * (zz_gi S 2)) + p2)
theorem zi_X1_numberOf_X1 : ∀ w ∈ wsX10, w ∈ wsX1_numberOf := by decide +kernel
theorem zm_X1_numberOf_24 : Cond.fieldLink RX1 24 "GridRipUp$Grid" "height" "I" ∈ wsX1_numberOf := by decide +kernel
theorem zm_X1_numberOf_20 : Cond.fieldLink RX1 20 "GridRipUp$Grid" "width" "I" ∈ wsX1_numberOf := by decide +kernel
theorem zd_X1_numberOf : yX1_numberOf.cls = RX1 ∧ yX1_numberOf.cls ≠ "java/lang/invoke/MethodHandle" ∧ yX1_numberOf.cls ≠ "java/lang/invoke/VarHandle" ∧ (parseMethodDescriptor yX1_numberOf.desc).map (fun d => d.parameters.length) = some 3 := by decide +kernel
set_option maxHeartbeats 4000000 in
set_option maxRecDepth 100000 in
theorem zc_X1_numberOf (N : Nat) (l : Launch) (D : va_G) (k : Nat → ClassId) {a : Nat → Nat} {z : Nat} (S : zz_St) (p1 : Int32) (p2 : Int32) (p3 : Int32)  (v : Int32) (h : zf_X1_numberOf N z S p1 p2 p3 = some v) : zz_MI l yX1_numberOf wsX1_numberOf ({ frames := 0, cells := 0, slots := 0, locals := 0 } : Room) D k (zz_wC a k z) [.ref (a 1), .int p1, .int p2, .int p3] S (v, S) := by
  refine zz_metI (cc := cX1_numberOf) (nL := 4) (ty := .int) (by decide) rfl (Nat.le_of_ble_eq_true rfl) ?_
  intro X C hret
  have C : zz_ok X cX1_numberOf RX1 wsX1_numberOf k 4 ({ frames := 0, cells := 0, slots := 0, locals := 0 } : Room) := C
  unfold zf_X1_numberOf at h
  show zz_ww X (0, 0) (zz_wC a k z S) 0 [(0, .ref (a 1)), (1, .int p1), (2, .int p2), (3, .int p3)] []
  refine zr_iln C 1 dX1_numberOf_0 rfl rfl rfl ?_
  refine zr_aln C 0 dX1_numberOf_1 rfl rfl rfl ?_
  refine zg_X1_1 C zi_X1_numberOf_X1 zm_X1_numberOf_24 dX1_numberOf_2 rfl ?_
  refine zr_imul C dX1_numberOf_5 rfl ?_
  refine zr_iln C 3 dX1_numberOf_6 rfl rfl rfl ?_
  refine zr_iadd C dX1_numberOf_7 rfl ?_
  refine zr_aln C 0 dX1_numberOf_8 rfl rfl rfl ?_
  refine zg_X1_0 C zi_X1_numberOf_X1 zm_X1_numberOf_20 dX1_numberOf_9 rfl ?_
  refine zr_imul C dX1_numberOf_12 rfl ?_
  refine zr_iln C 2 dX1_numberOf_13 rfl rfl rfl ?_
  refine zr_iadd C dX1_numberOf_14 rfl ?_
  exact hret ((((p1 * (zz_gi S 3)) + p3) * (zz_gi S 2)) + p2) S 15 _ (0, 0) (by decide) (by decide) dX1_numberOf_15 rfl (zz_ro h)

def zf_X1_layerOf (N : Nat) (z : Nat) (S : zz_St) (p1 : Int32) : Option Int32 := zz_gd (!((zz_gi S 5) == 0)) (some (p1 / (zz_gi S 5)))
theorem zi_X1_layerOf_X1 : ∀ w ∈ wsX10, w ∈ wsX1_layerOf := by decide +kernel
theorem zm_X1_layerOf_30 : Cond.fieldLink RX1 30 "GridRipUp$Grid" "area" "I" ∈ wsX1_layerOf := by decide +kernel
theorem zd_X1_layerOf : yX1_layerOf.cls = RX1 ∧ yX1_layerOf.cls ≠ "java/lang/invoke/MethodHandle" ∧ yX1_layerOf.cls ≠ "java/lang/invoke/VarHandle" ∧ (parseMethodDescriptor yX1_layerOf.desc).map (fun d => d.parameters.length) = some 1 := by decide +kernel
set_option maxHeartbeats 4000000 in
set_option maxRecDepth 100000 in
theorem zc_X1_layerOf (N : Nat) (l : Launch) (D : va_G) (k : Nat → ClassId) {a : Nat → Nat} {z : Nat} (S : zz_St) (p1 : Int32)  (v : Int32) (h : zf_X1_layerOf N z S p1 = some v) : zz_MI l yX1_layerOf wsX1_layerOf ({ frames := 0, cells := 0, slots := 0, locals := 0 } : Room) D k (zz_wC a k z) [.ref (a 1), .int p1] S (v, S) := by
  refine zz_metI (cc := cX1_layerOf) (nL := 2) (ty := .int) (by decide) rfl (Nat.le_of_ble_eq_true rfl) ?_
  intro X C hret
  have C : zz_ok X cX1_layerOf RX1 wsX1_layerOf k 2 ({ frames := 0, cells := 0, slots := 0, locals := 0 } : Room) := C
  unfold zf_X1_layerOf at h
  show zz_ww X (0, 0) (zz_wC a k z S) 0 [(0, .ref (a 1)), (1, .int p1)] []
  refine zr_iln C 1 dX1_layerOf_0 rfl rfl rfl ?_
  refine zr_aln C 0 dX1_layerOf_1 rfl rfl rfl ?_
  refine zg_X1_3 C zi_X1_layerOf_X1 zm_X1_layerOf_30 dX1_layerOf_2 rfl ?_
  refine zr_idiv C dX1_layerOf_5 rfl h (fun h => ?_)
  exact hret (p1 / (zz_gi S 5)) S 6 _ (0, 0) (by decide) (by decide) dX1_layerOf_6 rfl (zz_ro h)

def zf_X1_rowOf (N : Nat) (z : Nat) (S : zz_St) (p1 : Int32) : Option Int32 := zz_gd (!((zz_gi S 2) == 0)) (zz_gd (!((zz_gi S 3) == 0)) (some ((p1 / (zz_gi S 2)) - (p1 / (zz_gi S 2)) / (zz_gi S 3) * (zz_gi S 3))))
theorem zi_X1_rowOf_X1 : ∀ w ∈ wsX10, w ∈ wsX1_rowOf := by decide +kernel
theorem zm_X1_rowOf_20 : Cond.fieldLink RX1 20 "GridRipUp$Grid" "width" "I" ∈ wsX1_rowOf := by decide +kernel
theorem zm_X1_rowOf_24 : Cond.fieldLink RX1 24 "GridRipUp$Grid" "height" "I" ∈ wsX1_rowOf := by decide +kernel
theorem zd_X1_rowOf : yX1_rowOf.cls = RX1 ∧ yX1_rowOf.cls ≠ "java/lang/invoke/MethodHandle" ∧ yX1_rowOf.cls ≠ "java/lang/invoke/VarHandle" ∧ (parseMethodDescriptor yX1_rowOf.desc).map (fun d => d.parameters.length) = some 1 := by decide +kernel
set_option maxHeartbeats 4000000 in
set_option maxRecDepth 100000 in
theorem zc_X1_rowOf (N : Nat) (l : Launch) (D : va_G) (k : Nat → ClassId) {a : Nat → Nat} {z : Nat} (S : zz_St) (p1 : Int32)  (v : Int32) (h : zf_X1_rowOf N z S p1 = some v) : zz_MI l yX1_rowOf wsX1_rowOf ({ frames := 0, cells := 0, slots := 0, locals := 0 } : Room) D k (zz_wC a k z) [.ref (a 1), .int p1] S (v, S) := by
  refine zz_metI (cc := cX1_rowOf) (nL := 2) (ty := .int) (by decide) rfl (Nat.le_of_ble_eq_true rfl) ?_
  intro X C hret
  have C : zz_ok X cX1_rowOf RX1 wsX1_rowOf k 2 ({ frames := 0, cells := 0, slots := 0, locals := 0 } : Room) := C
  unfold zf_X1_rowOf at h
  show zz_ww X (0, 0) (zz_wC a k z S) 0 [(0, .ref (a 1)), (1, .int p1)] []
  refine zr_iln C 1 dX1_rowOf_0 rfl rfl rfl ?_
  refine zr_aln C 0 dX1_rowOf_1 rfl rfl rfl ?_
  refine zg_X1_0 C zi_X1_rowOf_X1 zm_X1_rowOf_20 dX1_rowOf_2 rfl ?_
  refine zr_idiv C dX1_rowOf_5 rfl h (fun h => ?_)
  refine zr_aln C 0 dX1_rowOf_6 rfl rfl rfl ?_
  refine zg_X1_1 C zi_X1_rowOf_X1 zm_X1_rowOf_24 dX1_rowOf_7 rfl ?_
  refine zr_irem C dX1_rowOf_10 rfl h (fun h => ?_)
  exact hret ((p1 / (zz_gi S 2)) - (p1 / (zz_gi S 2)) / (zz_gi S 3) * (zz_gi S 3)) S 11 _ (0, 0) (by decide) (by decide) dX1_rowOf_11 rfl (zz_ro h)

def zf_X1_columnOf (N : Nat) (z : Nat) (S : zz_St) (p1 : Int32) : Option Int32 := zz_gd (!((zz_gi S 2) == 0)) (some (p1 - p1 / (zz_gi S 2) * (zz_gi S 2)))
theorem zi_X1_columnOf_X1 : ∀ w ∈ wsX10, w ∈ wsX1_columnOf := by decide +kernel
theorem zm_X1_columnOf_20 : Cond.fieldLink RX1 20 "GridRipUp$Grid" "width" "I" ∈ wsX1_columnOf := by decide +kernel
theorem zd_X1_columnOf : yX1_columnOf.cls = RX1 ∧ yX1_columnOf.cls ≠ "java/lang/invoke/MethodHandle" ∧ yX1_columnOf.cls ≠ "java/lang/invoke/VarHandle" ∧ (parseMethodDescriptor yX1_columnOf.desc).map (fun d => d.parameters.length) = some 1 := by decide +kernel
set_option maxHeartbeats 4000000 in
set_option maxRecDepth 100000 in
theorem zc_X1_columnOf (N : Nat) (l : Launch) (D : va_G) (k : Nat → ClassId) {a : Nat → Nat} {z : Nat} (S : zz_St) (p1 : Int32)  (v : Int32) (h : zf_X1_columnOf N z S p1 = some v) : zz_MI l yX1_columnOf wsX1_columnOf ({ frames := 0, cells := 0, slots := 0, locals := 0 } : Room) D k (zz_wC a k z) [.ref (a 1), .int p1] S (v, S) := by
  refine zz_metI (cc := cX1_columnOf) (nL := 2) (ty := .int) (by decide) rfl (Nat.le_of_ble_eq_true rfl) ?_
  intro X C hret
  have C : zz_ok X cX1_columnOf RX1 wsX1_columnOf k 2 ({ frames := 0, cells := 0, slots := 0, locals := 0 } : Room) := C
  unfold zf_X1_columnOf at h
  show zz_ww X (0, 0) (zz_wC a k z S) 0 [(0, .ref (a 1)), (1, .int p1)] []
  refine zr_iln C 1 dX1_columnOf_0 rfl rfl rfl ?_
  refine zr_aln C 0 dX1_columnOf_1 rfl rfl rfl ?_
  refine zg_X1_0 C zi_X1_columnOf_X1 zm_X1_columnOf_20 dX1_columnOf_2 rfl ?_
  refine zr_irem C dX1_columnOf_5 rfl h (fun h => ?_)
  exact hret (p1 - p1 / (zz_gi S 2) * (zz_gi S 2)) S 6 _ (0, 0) (by decide) (by decide) dX1_columnOf_6 rfl (zz_ro h)

def zf_X1_neighbour (N : Nat) (z : Nat) (S : zz_St) (p1 : Int32) (p2 : Int32) : Option Int32 := if p2 = (0 : Int32) then (zz_jn1 (fun (v2 : Int32) => some (v2)) (fun j3 => if p1 < (zz_gi S 5) then (j3 ((-1 : Int32))) else (j3 (p1 - (zz_gi S 5))))) else (if p2 = (1 : Int32) then (zz_gd (!((zz_gi S 5) == 0)) (zz_jn1 (fun (v6 : Int32) => some (v6)) (fun j7 => if (p1 - p1 / (zz_gi S 5) * (zz_gi S 5)) < (zz_gi S 2) then (j7 ((-1 : Int32))) else (j7 (p1 - (zz_gi S 2)))))) else (if p2 = (2 : Int32) then (zz_gd (!((zz_gi S 2) == 0)) (zz_jn1 (fun (v10 : Int32) => some (v10)) (fun j11 => if (p1 - p1 / (zz_gi S 2) * (zz_gi S 2)) ≤ 0 then (j11 ((-1 : Int32))) else (j11 (p1 - ((1 : Int32))))))) else (if p2 = (3 : Int32) then (zz_gd (!((zz_gi S 2) == 0)) (zz_jn1 (fun (v14 : Int32) => some (v14)) (fun j15 => if ((zz_gi S 2) - ((1 : Int32))) ≤ (p1 - p1 / (zz_gi S 2) * (zz_gi S 2)) then (j15 ((-1 : Int32))) else (j15 (p1 + ((1 : Int32))))))) else (if p2 = (4 : Int32) then (zz_gd (!((zz_gi S 5) == 0)) (zz_jn1 (fun (v18 : Int32) => some (v18)) (fun j19 => if ((zz_gi S 5) - (zz_gi S 2)) ≤ (p1 - p1 / (zz_gi S 5) * (zz_gi S 5)) then (j19 ((-1 : Int32))) else (j19 (p1 + (zz_gi S 2)))))) else (if p2 = (5 : Int32) then (zz_jn1 (fun (v22 : Int32) => some (v22)) (fun j23 => if ((zz_gi S 6) - (zz_gi S 5)) ≤ p1 then (j23 ((-1 : Int32))) else (j23 (p1 + (zz_gi S 5))))) else (some ((-1 : Int32))))))))
theorem zi_X1_neighbour_X1 : ∀ w ∈ wsX10, w ∈ wsX1_neighbour := by decide +kernel
theorem zm_X1_neighbour_30 : Cond.fieldLink RX1 30 "GridRipUp$Grid" "area" "I" ∈ wsX1_neighbour := by decide +kernel
theorem zm_X1_neighbour_20 : Cond.fieldLink RX1 20 "GridRipUp$Grid" "width" "I" ∈ wsX1_neighbour := by decide +kernel
theorem zm_X1_neighbour_33 : Cond.fieldLink RX1 33 "GridRipUp$Grid" "cells" "I" ∈ wsX1_neighbour := by decide +kernel
theorem zd_X1_neighbour : yX1_neighbour.cls = RX1 ∧ yX1_neighbour.cls ≠ "java/lang/invoke/MethodHandle" ∧ yX1_neighbour.cls ≠ "java/lang/invoke/VarHandle" ∧ (parseMethodDescriptor yX1_neighbour.desc).map (fun d => d.parameters.length) = some 2 := by decide +kernel
set_option maxHeartbeats 4000000 in
set_option maxRecDepth 100000 in
theorem zc_X1_neighbour (N : Nat) (l : Launch) (D : va_G) (k : Nat → ClassId) {a : Nat → Nat} {z : Nat} (S : zz_St) (p1 : Int32) (p2 : Int32)  (v : Int32) (h : zf_X1_neighbour N z S p1 p2 = some v) : zz_MI l yX1_neighbour wsX1_neighbour ({ frames := 0, cells := 0, slots := 0, locals := 0 } : Room) D k (zz_wC a k z) [.ref (a 1), .int p1, .int p2] S (v, S) := by
  refine zz_metI (cc := cX1_neighbour) (nL := 3) (ty := .int) (by decide) rfl (Nat.le_of_ble_eq_true rfl) ?_
  intro X C hret
  have C : zz_ok X cX1_neighbour RX1 wsX1_neighbour k 3 ({ frames := 0, cells := 0, slots := 0, locals := 0 } : Room) := C
  unfold zf_X1_neighbour at h
  show zz_ww X (0, 0) (zz_wC a k z S) 0 [(0, .ref (a 1)), (1, .int p1), (2, .int p2)] []
  refine zr_iln C 2 dX1_neighbour_0 rfl rfl rfl ?_
  by_cases hc1 : p2 = (0 : Int32)
  · rw [if_pos hc1] at h
    refine zr_tabIn (v := (0 : Int32)) (tgt := 40) C dX1_neighbour_1 hc1 (by decide) (by decide) rfl (by decide) ?_
    refine zr_iln C 1 dX1_neighbour_40 rfl rfl rfl ?_
    refine zr_aln C 0 dX1_neighbour_41 rfl rfl rfl ?_
    refine zg_X1_3 C zi_X1_neighbour_X1 zm_X1_neighbour_30 dX1_neighbour_42 rfl ?_
    refine zz_jn1_W h (fun (v2 : Int32) => zz_ww X (0, 0) (zz_wC a k z S) 58 [] [.int v2]) ?_ ?_
    · intro v2 h
      exact hret v2 S 58 _ (0, 0) (by decide) (by decide) dX1_neighbour_58 rfl (zz_ro h)
    intro j3 hj4 h
    refine zr_icmp_lt (tgt := 57) C dX1_neighbour_45 (by decide) rfl h (fun h => ?_) (fun h => ?_)
    · refine zr_ic (v := (-1 : Int32)) C dX1_neighbour_57 (by decide) rfl ?_
      refine zr_sub [] rfl ?_
      exact hj4 ((-1 : Int32)) h
    · refine zr_iln C 1 dX1_neighbour_48 rfl rfl rfl ?_
      refine zr_aln C 0 dX1_neighbour_49 rfl rfl rfl ?_
      refine zg_X1_3 C zi_X1_neighbour_X1 zm_X1_neighbour_30 dX1_neighbour_50 rfl ?_
      refine zr_isub C dX1_neighbour_53 rfl ?_
      refine zr_goto (tgt := 58) C dX1_neighbour_54 (by decide) ?_
      refine zr_sub [] rfl ?_
      exact hj4 (p1 - (zz_gi S 5)) h
  rw [if_neg hc1] at h
  by_cases hc5 : p2 = (1 : Int32)
  · rw [if_pos hc5] at h
    refine zr_tabIn (v := (1 : Int32)) (tgt := 59) C dX1_neighbour_1 hc5 (by decide) (by decide) rfl (by decide) ?_
    refine zr_iln C 1 dX1_neighbour_59 rfl rfl rfl ?_
    refine zr_aln C 0 dX1_neighbour_60 rfl rfl rfl ?_
    refine zg_X1_3 C zi_X1_neighbour_X1 zm_X1_neighbour_30 dX1_neighbour_61 rfl ?_
    refine zr_irem C dX1_neighbour_64 rfl h (fun h => ?_)
    refine zr_aln C 0 dX1_neighbour_65 rfl rfl rfl ?_
    refine zg_X1_0 C zi_X1_neighbour_X1 zm_X1_neighbour_20 dX1_neighbour_66 rfl ?_
    refine zz_jn1_W h (fun (v6 : Int32) => zz_ww X (0, 0) (zz_wC a k z S) 82 [] [.int v6]) ?_ ?_
    · intro v6 h
      exact hret v6 S 82 _ (0, 0) (by decide) (by decide) dX1_neighbour_82 rfl (zz_ro h)
    intro j7 hj8 h
    refine zr_icmp_lt (tgt := 81) C dX1_neighbour_69 (by decide) rfl h (fun h => ?_) (fun h => ?_)
    · refine zr_ic (v := (-1 : Int32)) C dX1_neighbour_81 (by decide) rfl ?_
      refine zr_sub [] rfl ?_
      exact hj8 ((-1 : Int32)) h
    · refine zr_iln C 1 dX1_neighbour_72 rfl rfl rfl ?_
      refine zr_aln C 0 dX1_neighbour_73 rfl rfl rfl ?_
      refine zg_X1_0 C zi_X1_neighbour_X1 zm_X1_neighbour_20 dX1_neighbour_74 rfl ?_
      refine zr_isub C dX1_neighbour_77 rfl ?_
      refine zr_goto (tgt := 82) C dX1_neighbour_78 (by decide) ?_
      refine zr_sub [] rfl ?_
      exact hj8 (p1 - (zz_gi S 2)) h
  rw [if_neg hc5] at h
  by_cases hc9 : p2 = (2 : Int32)
  · rw [if_pos hc9] at h
    refine zr_tabIn (v := (2 : Int32)) (tgt := 83) C dX1_neighbour_1 hc9 (by decide) (by decide) rfl (by decide) ?_
    refine zr_iln C 1 dX1_neighbour_83 rfl rfl rfl ?_
    refine zr_aln C 0 dX1_neighbour_84 rfl rfl rfl ?_
    refine zg_X1_0 C zi_X1_neighbour_X1 zm_X1_neighbour_20 dX1_neighbour_85 rfl ?_
    refine zr_irem C dX1_neighbour_88 rfl h (fun h => ?_)
    refine zz_jn1_W h (fun (v10 : Int32) => zz_ww X (0, 0) (zz_wC a k z S) 99 [] [.int v10]) ?_ ?_
    · intro v10 h
      exact hret v10 S 99 _ (0, 0) (by decide) (by decide) dX1_neighbour_99 rfl (zz_ro h)
    intro j11 hj12 h
    refine zr_if_le (tgt := 98) C dX1_neighbour_89 (by decide) rfl h (fun h => ?_) (fun h => ?_)
    · refine zr_ic (v := (-1 : Int32)) C dX1_neighbour_98 (by decide) rfl ?_
      refine zr_sub [] rfl ?_
      exact hj12 ((-1 : Int32)) h
    · refine zr_iln C 1 dX1_neighbour_92 rfl rfl rfl ?_
      refine zr_ic (v := (1 : Int32)) C dX1_neighbour_93 (by decide) rfl ?_
      refine zr_isub C dX1_neighbour_94 rfl ?_
      refine zr_goto (tgt := 99) C dX1_neighbour_95 (by decide) ?_
      refine zr_sub [] rfl ?_
      exact hj12 (p1 - ((1 : Int32))) h
  rw [if_neg hc9] at h
  by_cases hc13 : p2 = (3 : Int32)
  · rw [if_pos hc13] at h
    refine zr_tabIn (v := (3 : Int32)) (tgt := 100) C dX1_neighbour_1 hc13 (by decide) (by decide) rfl (by decide) ?_
    refine zr_iln C 1 dX1_neighbour_100 rfl rfl rfl ?_
    refine zr_aln C 0 dX1_neighbour_101 rfl rfl rfl ?_
    refine zg_X1_0 C zi_X1_neighbour_X1 zm_X1_neighbour_20 dX1_neighbour_102 rfl ?_
    refine zr_irem C dX1_neighbour_105 rfl h (fun h => ?_)
    refine zr_aln C 0 dX1_neighbour_106 rfl rfl rfl ?_
    refine zg_X1_0 C zi_X1_neighbour_X1 zm_X1_neighbour_20 dX1_neighbour_107 rfl ?_
    refine zr_ic (v := (1 : Int32)) C dX1_neighbour_110 (by decide) rfl ?_
    refine zr_isub C dX1_neighbour_111 rfl ?_
    refine zz_jn1_W h (fun (v14 : Int32) => zz_ww X (0, 0) (zz_wC a k z S) 122 [] [.int v14]) ?_ ?_
    · intro v14 h
      exact hret v14 S 122 _ (0, 0) (by decide) (by decide) dX1_neighbour_122 rfl (zz_ro h)
    intro j15 hj16 h
    refine zr_icmp_ge (tgt := 121) C dX1_neighbour_112 (by decide) rfl h (fun h => ?_) (fun h => ?_)
    · refine zr_ic (v := (-1 : Int32)) C dX1_neighbour_121 (by decide) rfl ?_
      refine zr_sub [] rfl ?_
      exact hj16 ((-1 : Int32)) h
    · refine zr_iln C 1 dX1_neighbour_115 rfl rfl rfl ?_
      refine zr_ic (v := (1 : Int32)) C dX1_neighbour_116 (by decide) rfl ?_
      refine zr_iadd C dX1_neighbour_117 rfl ?_
      refine zr_goto (tgt := 122) C dX1_neighbour_118 (by decide) ?_
      refine zr_sub [] rfl ?_
      exact hj16 (p1 + ((1 : Int32))) h
  rw [if_neg hc13] at h
  by_cases hc17 : p2 = (4 : Int32)
  · rw [if_pos hc17] at h
    refine zr_tabIn (v := (4 : Int32)) (tgt := 123) C dX1_neighbour_1 hc17 (by decide) (by decide) rfl (by decide) ?_
    refine zr_iln C 1 dX1_neighbour_123 rfl rfl rfl ?_
    refine zr_aln C 0 dX1_neighbour_124 rfl rfl rfl ?_
    refine zg_X1_3 C zi_X1_neighbour_X1 zm_X1_neighbour_30 dX1_neighbour_125 rfl ?_
    refine zr_irem C dX1_neighbour_128 rfl h (fun h => ?_)
    refine zr_aln C 0 dX1_neighbour_129 rfl rfl rfl ?_
    refine zg_X1_3 C zi_X1_neighbour_X1 zm_X1_neighbour_30 dX1_neighbour_130 rfl ?_
    refine zr_aln C 0 dX1_neighbour_133 rfl rfl rfl ?_
    refine zg_X1_0 C zi_X1_neighbour_X1 zm_X1_neighbour_20 dX1_neighbour_134 rfl ?_
    refine zr_isub C dX1_neighbour_137 rfl ?_
    refine zz_jn1_W h (fun (v18 : Int32) => zz_ww X (0, 0) (zz_wC a k z S) 151 [] [.int v18]) ?_ ?_
    · intro v18 h
      exact hret v18 S 151 _ (0, 0) (by decide) (by decide) dX1_neighbour_151 rfl (zz_ro h)
    intro j19 hj20 h
    refine zr_icmp_ge (tgt := 150) C dX1_neighbour_138 (by decide) rfl h (fun h => ?_) (fun h => ?_)
    · refine zr_ic (v := (-1 : Int32)) C dX1_neighbour_150 (by decide) rfl ?_
      refine zr_sub [] rfl ?_
      exact hj20 ((-1 : Int32)) h
    · refine zr_iln C 1 dX1_neighbour_141 rfl rfl rfl ?_
      refine zr_aln C 0 dX1_neighbour_142 rfl rfl rfl ?_
      refine zg_X1_0 C zi_X1_neighbour_X1 zm_X1_neighbour_20 dX1_neighbour_143 rfl ?_
      refine zr_iadd C dX1_neighbour_146 rfl ?_
      refine zr_goto (tgt := 151) C dX1_neighbour_147 (by decide) ?_
      refine zr_sub [] rfl ?_
      exact hj20 (p1 + (zz_gi S 2)) h
  rw [if_neg hc17] at h
  by_cases hc21 : p2 = (5 : Int32)
  · rw [if_pos hc21] at h
    refine zr_tabIn (v := (5 : Int32)) (tgt := 152) C dX1_neighbour_1 hc21 (by decide) (by decide) rfl (by decide) ?_
    refine zr_iln C 1 dX1_neighbour_152 rfl rfl rfl ?_
    refine zr_aln C 0 dX1_neighbour_153 rfl rfl rfl ?_
    refine zg_X1_4 C zi_X1_neighbour_X1 zm_X1_neighbour_33 dX1_neighbour_154 rfl ?_
    refine zr_aln C 0 dX1_neighbour_157 rfl rfl rfl ?_
    refine zg_X1_3 C zi_X1_neighbour_X1 zm_X1_neighbour_30 dX1_neighbour_158 rfl ?_
    refine zr_isub C dX1_neighbour_161 rfl ?_
    refine zz_jn1_W h (fun (v22 : Int32) => zz_ww X (0, 0) (zz_wC a k z S) 175 [] [.int v22]) ?_ ?_
    · intro v22 h
      exact hret v22 S 175 _ (0, 0) (by decide) (by decide) dX1_neighbour_175 rfl (zz_ro h)
    intro j23 hj24 h
    refine zr_icmp_ge (tgt := 174) C dX1_neighbour_162 (by decide) rfl h (fun h => ?_) (fun h => ?_)
    · refine zr_ic (v := (-1 : Int32)) C dX1_neighbour_174 (by decide) rfl ?_
      refine zr_sub [] rfl ?_
      exact hj24 ((-1 : Int32)) h
    · refine zr_iln C 1 dX1_neighbour_165 rfl rfl rfl ?_
      refine zr_aln C 0 dX1_neighbour_166 rfl rfl rfl ?_
      refine zg_X1_3 C zi_X1_neighbour_X1 zm_X1_neighbour_30 dX1_neighbour_167 rfl ?_
      refine zr_iadd C dX1_neighbour_170 rfl ?_
      refine zr_goto (tgt := 175) C dX1_neighbour_171 (by decide) ?_
      refine zr_sub [] rfl ?_
      exact hj24 (p1 + (zz_gi S 5)) h
  rw [if_neg hc21] at h
  have ho : (p2).toInt < 0 ∨ 5 < (p2).toInt := by
    have q0 := lv_neT hc1 (show ((0 : Int32)).toInt = 0 by decide)
    have q1 := lv_neT hc5 (show ((1 : Int32)).toInt = 1 by decide)
    have q2 := lv_neT hc9 (show ((2 : Int32)).toInt = 2 by decide)
    have q3 := lv_neT hc13 (show ((3 : Int32)).toInt = 3 by decide)
    have q4 := lv_neT hc17 (show ((4 : Int32)).toInt = 4 by decide)
    have q5 := lv_neT hc21 (show ((5 : Int32)).toInt = 5 by decide)
    omega
  refine zr_tabOut (tgt := 176) C dX1_neighbour_1 ho (by decide) ?_
  refine zr_ic (v := (-1 : Int32)) C dX1_neighbour_176 (by decide) rfl ?_
  exact hret ((-1 : Int32)) S 177 _ (0, 0) (by decide) (by decide) dX1_neighbour_177 rfl (zz_ro h)

def zf_X1_heldByOther (N : Nat) (z : Nat) (S : zz_St) (p1 : Int32) (p2 : Int32) : Option Int32 := zz_gd (zz_in p1 z) (zz_jn1 (fun (v1 : Int32) => zz_gd (zz_bl v1) (some (v1))) (fun j2 => zz_jn1 (fun (u4 : Unit) => j2 ((0 : Int32))) (fun j5 => if (zz_ga S 10 p1.toNatClampNeg) = ((-1 : Int32)) then (j5 ()) else (zz_gd (zz_in p1 z) (if (zz_ga S 10 p1.toNatClampNeg) = p2 then (j5 ()) else (j2 ((1 : Int32))))))))
theorem zi_X1_heldByOther_X1 : ∀ w ∈ wsX10, w ∈ wsX1_heldByOther := by decide +kernel
theorem zm_X1_heldByOther_43 : Cond.fieldLink RX1 43 "GridRipUp$Grid" "holder" "[I" ∈ wsX1_heldByOther := by decide +kernel
theorem zd_X1_heldByOther : yX1_heldByOther.cls = RX1 ∧ yX1_heldByOther.cls ≠ "java/lang/invoke/MethodHandle" ∧ yX1_heldByOther.cls ≠ "java/lang/invoke/VarHandle" ∧ (parseMethodDescriptor yX1_heldByOther.desc).map (fun d => d.parameters.length) = some 2 := by decide +kernel
set_option maxHeartbeats 4000000 in
set_option maxRecDepth 100000 in
theorem zc_X1_heldByOther (N : Nat) (l : Launch) (D : va_G) (k : Nat → ClassId) {a : Nat → Nat} {z : Nat} (S : zz_St) (p1 : Int32) (p2 : Int32)  (v : Int32) (h : zf_X1_heldByOther N z S p1 p2 = some v) : zz_MI l yX1_heldByOther wsX1_heldByOther ({ frames := 0, cells := 0, slots := 0, locals := 0 } : Room) D k (zz_wC a k z) [.ref (a 1), .int p1, .int p2] S (v, S) := by
  refine zz_metI (cc := cX1_heldByOther) (nL := 3) (ty := .boolean) (by decide) rfl (Nat.le_of_ble_eq_true rfl) ?_
  intro X C hret
  have C : zz_ok X cX1_heldByOther RX1 wsX1_heldByOther k 3 ({ frames := 0, cells := 0, slots := 0, locals := 0 } : Room) := C
  unfold zf_X1_heldByOther at h
  show zz_ww X (0, 0) (zz_wC a k z S) 0 [(0, .ref (a 1)), (1, .int p1), (2, .int p2)] []
  refine zr_aln C 0 dX1_heldByOther_0 rfl rfl rfl ?_
  refine zg_X1_7 C zi_X1_heldByOther_X1 zm_X1_heldByOther_43 dX1_heldByOther_1 rfl ?_
  refine zr_iln C 1 dX1_heldByOther_4 rfl rfl rfl ?_
  refine zl_C10 C dX1_heldByOther_5 rfl h (fun h => ?_)
  refine zr_ic (v := (-1 : Int32)) C dX1_heldByOther_6 (by decide) rfl ?_
  refine zz_jn1_W h (fun (v1 : Int32) => zz_ww X (0, 0) (zz_wC a k z S) 25 [] [.int v1]) ?_ ?_
  · intro v1 h
    obtain ⟨hb, h⟩ := zz_gd_some h
    exact hret v1 S 25 _ (0, 0) (by decide) (by decide) dX1_heldByOther_25 (zz_bl_nar hb) (zz_ro h)
  intro j2 hj3 h
  refine zz_jn1_W h (fun (u4 : Unit) => zz_ww X (0, 0) (zz_wC a k z S) 24 [] []) ?_ ?_
  · intro u4 h
    refine zr_ic (v := (0 : Int32)) C dX1_heldByOther_24 (by decide) rfl ?_
    exact hj3 ((0 : Int32)) h
  intro j5 hj6 h
  refine zr_icmp_eq (tgt := 24) C dX1_heldByOther_7 (by decide) rfl h (fun h => ?_) (fun h => ?_)
  · refine zr_sub [] rfl ?_
    exact hj6 () h
  · refine zr_aln C 0 dX1_heldByOther_10 rfl rfl rfl ?_
    refine zg_X1_7 C zi_X1_heldByOther_X1 zm_X1_heldByOther_43 dX1_heldByOther_11 rfl ?_
    refine zr_iln C 1 dX1_heldByOther_14 rfl rfl rfl ?_
    refine zl_C10 C dX1_heldByOther_15 rfl h (fun h => ?_)
    refine zr_iln C 2 dX1_heldByOther_16 rfl rfl rfl ?_
    refine zr_icmp_eq (tgt := 24) C dX1_heldByOther_17 (by decide) rfl h (fun h => ?_) (fun h => ?_)
    · refine zr_sub [] rfl ?_
      exact hj6 () h
    · refine zr_ic (v := (1 : Int32)) C dX1_heldByOther_20 (by decide) rfl ?_
      refine zr_goto (tgt := 25) C dX1_heldByOther_21 (by decide) ?_
      refine zr_sub [] rfl ?_
      exact hj3 ((1 : Int32)) h


def zf_X6_corridor (N : Nat) (z : Nat) (S : zz_St) (p1 : Int32) (p2 : Int32) : Option ((Int32 × zz_St) ⊕ (Nat × zz_St)) := zz_bx (zf_X6_netAt N z S p1) (fun x2 S1 => zz_gd (!(((4 : Int32)) == 0)) (zz_let ((((zz_gi S1 2) + ((4 : Int32))) - ((1 : Int32))) / ((4 : Int32))) (fun x4 => zz_let ((0 : Int32)) (fun x5 => zz_let ((0 : Int32)) (fun x6 => zz_fix2 (fun rc9 (v7 : Int32) (v8 : Int32) => if (zz_gi S1 6) ≤ v8 then (zz_b1 (zf_X6_memberAt N v7 p2) (fun x11 => some (Sum.inl (x11, S1)))) else (zz_gd (zz_in v8 z) (zz_jn1 (fun (v12 : Int32) => zz_let (v8 + (1 : Int32)) (fun x15 => rc9 v12 x15)) (fun j13 => if (zz_ga S1 10 v8.toNatClampNeg) = p1 then (zz_b1 (zf_X1_rowOf N z S1 v8) (fun x16 => zz_gd (!(((4 : Int32)) == 0)) (zz_b1 (zf_X1_columnOf N z S1 v8) (fun x17 => zz_gd (!(((4 : Int32)) == 0)) (zz_let (v7 ||| (((1 : Int32)) <<< ((((x16 / ((4 : Int32))) * x4) + (x17 / ((4 : Int32)))) &&& 31))) (fun x18 => j13 x18)))))) else (j13 v7))))) N x5 x6)))))
theorem zi_X6_corridor_X6 : ∀ w ∈ wsX60, w ∈ wsX6_corridor := by decide +kernel
theorem zm_X6_corridor_12 : Cond.fieldLink RX6 12 "GridRipUp" "grid" "LGridRipUp$Grid;" ∈ wsX6_corridor := by decide +kernel
theorem zi_X6_corridor_X1 : ∀ w ∈ wsX10, w ∈ wsX6_corridor := by decide +kernel
theorem zm_X6_corridor_175 : Cond.fieldLink RX6 175 "GridRipUp$Grid" "width" "I" ∈ wsX6_corridor := by decide +kernel
theorem zm_X6_corridor_36 : Cond.fieldLink RX6 36 "GridRipUp$Grid" "cells" "I" ∈ wsX6_corridor := by decide +kernel
theorem zm_X6_corridor_76 : Cond.fieldLink RX6 76 "GridRipUp$Grid" "holder" "[I" ∈ wsX6_corridor := by decide +kernel
theorem zd_X6_corridor : yX6_corridor.cls = RX6 ∧ yX6_corridor.cls ≠ "java/lang/invoke/MethodHandle" ∧ yX6_corridor.cls ≠ "java/lang/invoke/VarHandle" ∧ (parseMethodDescriptor yX6_corridor.desc).map (fun d => d.parameters.length) = some 2 := by decide +kernel
set_option maxHeartbeats 4000000 in
set_option maxRecDepth 100000 in
theorem zc_X6_corridor (N : Nat) (l : Launch) (D : va_G) (k : Nat → ClassId) {a : Nat → Nat} {z : Nat} (S : zz_St) (p1 : Int32) (p2 : Int32)  (r : (Int32 × zz_St) ⊕ (Nat × zz_St)) (hst : l.stackTraces = false) (h : zf_X6_corridor N z S p1 p2 = some r) : zz_MX Value.int (fun _ => True) l yX6_corridor wsX6_corridor ({ frames := 7, cells := 1, slots := 6, locals := 111 } : Room) D k (zz_wC a k z) [.ref (a 0), .int p1, .int p2] S r := by
  refine zz_metXI (cc := cX6_corridor) (nL := 6) (ty := .int) hst (by decide) rfl (Nat.le_of_ble_eq_true rfl) ?_
  intro X C T hret hout hthr
  have C : zz_ok X cX6_corridor RX6 wsX6_corridor k 6 ({ frames := 7, cells := 1, slots := 6, locals := 111 } : Room) := C
  unfold zf_X6_corridor at h
  show zz_ww X (0, 0) (zz_wC a k z S) 0 [(0, .ref (a 0)), (1, .int p1), (2, .int p2)] []
  refine zr_aln C 0 dX6_corridor_0 rfl rfl rfl ?_
  refine zr_iln C 1 dX6_corridor_1 rfl rfl rfl ?_
  refine zr_cX (wf := (zz_wC a k z)) (st := []) C T (fun l D r hl hr => zc_X6_netAt N l D k (a := a) (z := z) S p1 r hl hr) gX6_corridor_X6_netAt rfl zd_X6_netAt ⟨by decide, by decide⟩ ⟨by decide, by decide⟩ rfl ⟨0, 6, _, _, _, zk_C0, rfl⟩ (Nat.le_of_ble_eq_true rfl) rfl dX6_corridor_2 rfl rfl h (fun c9 u _ h => hout c9 u _ (by decide) (by decide) h) (fun x2 S1 hn3 _ h => ?_)
  refine zr_pop C dX6_corridor_5 rfl rfl ?_
  refine zr_aln C 0 dX6_corridor_6 rfl rfl rfl ?_
  refine zg_X6_0 C zi_X6_corridor_X6 zm_X6_corridor_12 dX6_corridor_7 rfl ?_
  refine zg_X1_0 C zi_X6_corridor_X1 zm_X6_corridor_175 dX6_corridor_10 rfl ?_
  refine zr_ic (v := (4 : Int32)) C dX6_corridor_13 (by decide) rfl ?_
  refine zr_iadd C dX6_corridor_14 rfl ?_
  refine zr_ic (v := (1 : Int32)) C dX6_corridor_15 (by decide) rfl ?_
  refine zr_isub C dX6_corridor_16 rfl ?_
  refine zr_ic (v := (4 : Int32)) C dX6_corridor_17 (by decide) rfl ?_
  refine zr_idiv C dX6_corridor_18 rfl h (fun h => ?_)
  refine zr_isn C [1, 2, 3, 0] dX6_corridor_19 rfl rfl (by decide) (fun x4 => [(0, .ref (a 0)), (1, .int p1), (2, .int p2), (3, .int x4)]) h (fun _ => rfl) (fun x4 h => ?_)
  refine zr_ic (v := (0 : Int32)) C dX6_corridor_20 (by decide) rfl ?_
  refine zr_is C [1, 2, 3, 4, 0] dX6_corridor_21 rfl (by decide) (fun x5 => [(0, .ref (a 0)), (1, .int p1), (2, .int p2), (3, .int x4), (4, .int x5)]) h (fun _ => rfl) (fun x5 h => ?_)
  refine zr_ic (v := (0 : Int32)) C dX6_corridor_23 (by decide) rfl ?_
  refine zr_is C [1, 2, 3, 4, 5, 0] dX6_corridor_24 rfl (by decide) (fun x6 => [(0, .ref (a 0)), (1, .int p1), (2, .int p2), (3, .int x4), (4, .int x5), (5, .int x6)]) h (fun _ => rfl) (fun x6 h => ?_)
  refine zz_fix2_W (fun (v7 : Int32) (v8 : Int32) => zz_ww X (1, 6) (zz_wC a k z S1) 26 [(0, .ref (a 0)), (1, .int p1), (2, .int p2), (3, .int x4), (4, .int v7), (5, .int v8)] []) ?_ N x5 x6 h
  intro rc9 hr10 v7 v8 h
  refine zr_il C 5 dX6_corridor_26 rfl rfl ?_
  refine zr_aln C 0 dX6_corridor_28 rfl rfl rfl ?_
  refine zg_X6_0 C zi_X6_corridor_X6 zm_X6_corridor_12 dX6_corridor_29 rfl ?_
  refine zg_X1_4 C zi_X6_corridor_X1 zm_X6_corridor_36 dX6_corridor_32 rfl ?_
  refine zr_icmp_ge (tgt := 90) C dX6_corridor_35 (by decide) rfl h (fun h => ?_) (fun h => ?_)
  · refine zr_il C 4 dX6_corridor_90 rfl rfl ?_
    refine zr_iln C 2 dX6_corridor_92 rfl rfl rfl ?_
    refine zr_cSir (wf := (zz_wC a k z)) (st := []) C (fun l D v hv => zc_X6_memberAt N l D k (wf := (zz_wC a k z)) S1 v7 p2 v hv) gX6_corridor_X6_memberAt rfl zd_X6_memberAt ⟨by decide, by decide⟩ ⟨by decide, by decide⟩ rfl (Nat.le_of_ble_eq_true rfl) rfl dX6_corridor_93 rfl rfl h (fun x11 _ h => ?_)
    exact hret x11 S1 96 _ (1, 6) (by decide) (by decide) dX6_corridor_96 rfl h
  · refine zr_aln C 0 dX6_corridor_38 rfl rfl rfl ?_
    refine zg_X6_0 C zi_X6_corridor_X6 zm_X6_corridor_12 dX6_corridor_39 rfl ?_
    refine zg_X1_7 C zi_X6_corridor_X1 zm_X6_corridor_76 dX6_corridor_42 rfl ?_
    refine zr_il C 5 dX6_corridor_45 rfl rfl ?_
    refine zl_C10 C dX6_corridor_47 rfl h (fun h => ?_)
    refine zr_iln C 1 dX6_corridor_48 rfl rfl rfl ?_
    refine zz_jn1_W h (fun (v12 : Int32) => zz_ww X (1, 6) (zz_wC a k z S1) 84 [(0, .ref (a 0)), (1, .int p1), (2, .int p2), (3, .int x4), (4, .int v12), (5, .int v8)] []) ?_ ?_
    · intro v12 h
      refine zr_iinc (v := (1 : Int32)) C 5 [1, 2, 3, 4, 5, 0] dX6_corridor_84 rfl (by decide) rfl (by decide) (fun x15 => [(0, .ref (a 0)), (1, .int p1), (2, .int p2), (3, .int x4), (4, .int v12), (5, .int x15)]) h (fun _ => rfl) (fun x15 h => ?_)
      refine zr_goto (tgt := 26) C dX6_corridor_87 (by decide) ?_
      exact hr10 v12 x15 h
    intro j13 hj14 h
    refine zr_icmp_ne (tgt := 84) C dX6_corridor_49 (by decide) rfl h (fun h => ?_) (fun h => ?_)
    · exact hj14 v7 h
    · refine zr_il C 4 dX6_corridor_52 rfl rfl ?_
      refine zr_ic (v := (1 : Int32)) C dX6_corridor_54 (by decide) rfl ?_
      refine zr_aln C 0 dX6_corridor_55 rfl rfl rfl ?_
      refine zg_X6_0 C zi_X6_corridor_X6 zm_X6_corridor_12 dX6_corridor_56 rfl ?_
      refine zr_il C 5 dX6_corridor_59 rfl rfl ?_
      refine zr_cVir (wf := (zz_wC a k z)) (st := [.int ((1 : Int32)), .int v7]) C (fun l D v hv => zc_X1_rowOf N l D k (a := a) (z := z) S1 v8 v hv) gX6_corridor_X1_rowOf rfl zd_X1_rowOf ⟨by decide, by decide⟩ ⟨by decide, by decide⟩ rfl ⟨1, 1, _, _, _, zk_C1, rfl⟩ (Nat.le_of_ble_eq_true rfl) rfl dX6_corridor_61 rfl rfl h (fun x16 _ h => ?_)
      refine zr_ic (v := (4 : Int32)) C dX6_corridor_64 (by decide) rfl ?_
      refine zr_idiv C dX6_corridor_65 rfl h (fun h => ?_)
      refine zr_iln C 3 dX6_corridor_66 rfl rfl rfl ?_
      refine zr_imul C dX6_corridor_67 rfl ?_
      refine zr_aln C 0 dX6_corridor_68 rfl rfl rfl ?_
      refine zg_X6_0 C zi_X6_corridor_X6 zm_X6_corridor_12 dX6_corridor_69 rfl ?_
      refine zr_il C 5 dX6_corridor_72 rfl rfl ?_
      refine zr_cVir (wf := (zz_wC a k z)) (st := [.int ((x16 / ((4 : Int32))) * x4), .int ((1 : Int32)), .int v7]) C (fun l D v hv => zc_X1_columnOf N l D k (a := a) (z := z) S1 v8 v hv) gX6_corridor_X1_columnOf rfl zd_X1_columnOf ⟨by decide, by decide⟩ ⟨by decide, by decide⟩ rfl ⟨1, 1, _, _, _, zk_C1, rfl⟩ (Nat.le_of_ble_eq_true rfl) rfl dX6_corridor_74 rfl rfl h (fun x17 _ h => ?_)
      refine zr_ic (v := (4 : Int32)) C dX6_corridor_77 (by decide) rfl ?_
      refine zr_idiv C dX6_corridor_78 rfl h (fun h => ?_)
      refine zr_iadd C dX6_corridor_79 rfl ?_
      refine zr_ishl C dX6_corridor_80 rfl ?_
      refine zr_ior C dX6_corridor_81 rfl ?_
      refine zr_is C [1, 2, 3, 4, 0, 5] dX6_corridor_82 rfl (by decide) (fun x18 => [(0, .ref (a 0)), (1, .int p1), (2, .int p2), (3, .int x4), (4, .int x18), (5, .int v8)]) h (fun _ => rfl) (fun x18 h => ?_)
      exact hj14 x18 h

def zf_X6_band (N : Nat) (z : Nat) (S : zz_St) (p1 : Int32) : Option ((Int32 × zz_St) ⊕ (Nat × zz_St)) := zz_bx (zf_X6_netAt N z S p1) (fun x2 S1 => if (zz_ga S1 22 x2) = 0 then (some (Sum.inl ((0 : Int32), S1))) else (zz_let ((0 : Int32)) (fun x4 => zz_fix1 (fun rc6 (v5 : Int32) => if (zz_gi S1 6) ≤ v5 then (some (Sum.inl ((1 : Int32), S1))) else (zz_gd (zz_in v5 z) (zz_jn1 (fun (u8 : Unit) => zz_let (v5 + (1 : Int32)) (fun x11 => rc6 x11)) (fun j9 => if (zz_ga S1 10 v5.toNatClampNeg) = p1 then (zz_b1 (zf_X6_hasFreeBends N z S1 v5 p1) (fun x12 => if x12 = 0 then (some (Sum.inl ((0 : Int32), S1))) else (j9 ()))) else (j9 ()))))) N x4)))
theorem zi_X6_band_X2 : ∀ w ∈ wsX20, w ∈ wsX6_band := by decide +kernel
theorem zm_X6_band_138 : Cond.fieldLink RX6 138 "GridRipUp$Net" "led" "Z" ∈ wsX6_band := by decide +kernel
theorem zi_X6_band_X6 : ∀ w ∈ wsX60, w ∈ wsX6_band := by decide +kernel
theorem zm_X6_band_12 : Cond.fieldLink RX6 12 "GridRipUp" "grid" "LGridRipUp$Grid;" ∈ wsX6_band := by decide +kernel
theorem zi_X6_band_X1 : ∀ w ∈ wsX10, w ∈ wsX6_band := by decide +kernel
theorem zm_X6_band_36 : Cond.fieldLink RX6 36 "GridRipUp$Grid" "cells" "I" ∈ wsX6_band := by decide +kernel
theorem zm_X6_band_76 : Cond.fieldLink RX6 76 "GridRipUp$Grid" "holder" "[I" ∈ wsX6_band := by decide +kernel
theorem zd_X6_band : yX6_band.cls = RX6 ∧ yX6_band.cls ≠ "java/lang/invoke/MethodHandle" ∧ yX6_band.cls ≠ "java/lang/invoke/VarHandle" ∧ (parseMethodDescriptor yX6_band.desc).map (fun d => d.parameters.length) = some 1 := by decide +kernel
set_option maxHeartbeats 4000000 in
set_option maxRecDepth 100000 in
theorem zc_X6_band (N : Nat) (l : Launch) (D : va_G) (k : Nat → ClassId) {a : Nat → Nat} {z : Nat} (S : zz_St) (p1 : Int32)  (r : (Int32 × zz_St) ⊕ (Nat × zz_St)) (hst : l.stackTraces = false) (h : zf_X6_band N z S p1 = some r) : zz_MX Value.int (fun _ => True) l yX6_band wsX6_band ({ frames := 7, cells := 1, slots := 6, locals := 111 } : Room) D k (zz_wC a k z) [.ref (a 0), .int p1] S r := by
  refine zz_metXI (cc := cX6_band) (nL := 3) (ty := .boolean) hst (by decide) rfl (Nat.le_of_ble_eq_true rfl) ?_
  intro X C T hret hout hthr
  have C : zz_ok X cX6_band RX6 wsX6_band k 3 ({ frames := 7, cells := 1, slots := 6, locals := 111 } : Room) := C
  unfold zf_X6_band at h
  show zz_ww X (0, 0) (zz_wC a k z S) 0 [(0, .ref (a 0)), (1, .int p1)] []
  refine zr_aln C 0 dX6_band_0 rfl rfl rfl ?_
  refine zr_iln C 1 dX6_band_1 rfl rfl rfl ?_
  refine zr_cX (wf := (zz_wC a k z)) (st := []) C T (fun l D r hl hr => zc_X6_netAt N l D k (a := a) (z := z) S p1 r hl hr) gX6_band_X6_netAt rfl zd_X6_netAt ⟨by decide, by decide⟩ ⟨by decide, by decide⟩ rfl ⟨0, 6, _, _, _, zk_C0, rfl⟩ (Nat.le_of_ble_eq_true rfl) rfl dX6_band_2 rfl rfl h (fun c9 u _ h => hout c9 u _ (by decide) (by decide) h) (fun x2 S1 hn3 _ h => ?_)
  refine zg_X2_2 C hn3 zi_X6_band_X2 zm_X6_band_138 dX6_band_5 rfl ?_
  refine zr_if_ne (tgt := 13) C dX6_band_8 (by decide) rfl h (fun h => ?_) (fun h => ?_)
  · refine zr_ic (v := (0 : Int32)) C dX6_band_13 (by decide) rfl ?_
    refine zr_isn C [1, 2, 0] dX6_band_14 rfl rfl (by decide) (fun x4 => [(0, .ref (a 0)), (1, .int p1), (2, .int x4)]) h (fun _ => rfl) (fun x4 h => ?_)
    refine zz_fix1_W (fun (v5 : Int32) => zz_ww X (1, 6) (zz_wC a k z S1) 15 [(0, .ref (a 0)), (1, .int p1), (2, .int v5)] []) ?_ N x4 h
    intro rc6 hr7 v5 h
    refine zr_iln C 2 dX6_band_15 rfl rfl rfl ?_
    refine zr_aln C 0 dX6_band_16 rfl rfl rfl ?_
    refine zg_X6_0 C zi_X6_band_X6 zm_X6_band_12 dX6_band_17 rfl ?_
    refine zg_X1_4 C zi_X6_band_X1 zm_X6_band_36 dX6_band_20 rfl ?_
    refine zr_icmp_ge (tgt := 56) C dX6_band_23 (by decide) rfl h (fun h => ?_) (fun h => ?_)
    · refine zr_ic (v := (1 : Int32)) C dX6_band_56 (by decide) rfl ?_
      exact hret ((1 : Int32)) S1 57 _ (1, 6) (by decide) (by decide) dX6_band_57 rfl h
    · refine zr_aln C 0 dX6_band_26 rfl rfl rfl ?_
      refine zg_X6_0 C zi_X6_band_X6 zm_X6_band_12 dX6_band_27 rfl ?_
      refine zg_X1_7 C zi_X6_band_X1 zm_X6_band_76 dX6_band_30 rfl ?_
      refine zr_iln C 2 dX6_band_33 rfl rfl rfl ?_
      refine zl_C10 C dX6_band_34 rfl h (fun h => ?_)
      refine zr_iln C 1 dX6_band_35 rfl rfl rfl ?_
      refine zz_jn1_W h (fun (u8 : Unit) => zz_ww X (1, 6) (zz_wC a k z S1) 50 [(0, .ref (a 0)), (1, .int p1), (2, .int v5)] []) ?_ ?_
      · intro u8 h
        refine zr_iinc (v := (1 : Int32)) C 2 [1, 2, 0] dX6_band_50 rfl (by decide) rfl (by decide) (fun x11 => [(0, .ref (a 0)), (1, .int p1), (2, .int x11)]) h (fun _ => rfl) (fun x11 h => ?_)
        refine zr_goto (tgt := 15) C dX6_band_53 (by decide) ?_
        exact hr7 x11 h
      intro j9 hj10 h
      refine zr_icmp_ne (tgt := 50) C dX6_band_36 (by decide) rfl h (fun h => ?_) (fun h => ?_)
      · exact hj10 () h
      · refine zr_aln C 0 dX6_band_39 rfl rfl rfl ?_
        refine zr_iln C 2 dX6_band_40 rfl rfl rfl ?_
        refine zr_iln C 1 dX6_band_41 rfl rfl rfl ?_
        refine zr_cVir (wf := (zz_wC a k z)) (st := []) C (fun l D v hv => zc_X6_hasFreeBends N l D k (a := a) (z := z) S1 v5 p1 v hv) gX6_band_X6_hasFreeBends rfl zd_X6_hasFreeBends ⟨by decide, by decide⟩ ⟨by decide, by decide⟩ rfl ⟨0, 6, _, _, _, zk_C0, rfl⟩ (Nat.le_of_ble_eq_true rfl) rfl dX6_band_42 rfl rfl h (fun x12 _ h => ?_)
        refine zr_if_ne (tgt := 50) C dX6_band_45 (by decide) rfl h (fun h => ?_) (fun h => ?_)
        · exact hj10 () h
        · refine zr_ic (v := (0 : Int32)) C dX6_band_48 (by decide) rfl ?_
          exact hret ((0 : Int32)) S1 49 _ (1, 6) (by decide) (by decide) dX6_band_49 rfl h
  · refine zr_ic (v := (0 : Int32)) C dX6_band_11 (by decide) rfl ?_
    exact hret ((0 : Int32)) S1 12 _ (1, 6) (by decide) (by decide) dX6_band_12 rfl h


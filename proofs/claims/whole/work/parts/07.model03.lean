def zf_X7_isOpen (N : Nat) (S : zz_St) (p1 : Int32) : Option Int32 := zz_gd (zz_in p1 12) (zz_jn1 (fun (v1 : Int32) => zz_gd (zz_bl v1) (some (v1))) (fun j2 => zz_jn1 (fun (u4 : Unit) => j2 ((0 : Int32))) (fun j5 => if (zz_ga S 1 p1.toNatClampNeg) ≤ 0 then (j5 ()) else (zz_gd (zz_in p1 12) (if (zz_ga S 10 p1.toNatClampNeg) = 0 then (j2 ((1 : Int32))) else (j5 ()))))))
theorem zi_X7_isOpen_X7 : ∀ w ∈ wsX70, w ∈ wsX7_isOpen := by decide +kernel
theorem zm_X7_isOpen_7 : Cond.fieldLink RX7 7 "GridRipUpModel" "pinCount" "[I" ∈ wsX7_isOpen := by decide +kernel
theorem zm_X7_isOpen_39 : Cond.fieldLink RX7 39 "GridRipUpModel" "led" "[Z" ∈ wsX7_isOpen := by decide +kernel
theorem zd_X7_isOpen : yX7_isOpen.cls = RX7 ∧ yX7_isOpen.cls ≠ "java/lang/invoke/MethodHandle" ∧ yX7_isOpen.cls ≠ "java/lang/invoke/VarHandle" ∧ (parseMethodDescriptor yX7_isOpen.desc).map (fun d => d.parameters.length) = some 1 := by decide +kernel
set_option maxHeartbeats 4000000 in
set_option maxRecDepth 100000 in
theorem zc_X7_isOpen (N : Nat) (l : Launch) (D : va_G) (k : Nat → ClassId) {a : Nat → Nat} (S : zz_St) (p1 : Int32)  (v : Int32) (h : zf_X7_isOpen N S p1 = some v) : zz_MI l yX7_isOpen wsX7_isOpen ({ frames := 0, cells := 0, slots := 0, locals := 0 } : Room) D k (zz_wM a k) [.ref (a 0), .int p1] S (v, S) := by
  refine zz_metI (cc := cX7_isOpen) (nL := 2) (ty := .boolean) (by decide) rfl (Nat.le_of_ble_eq_true rfl) ?_
  intro X C hret
  have C : zz_ok X cX7_isOpen RX7 wsX7_isOpen k 2 ({ frames := 0, cells := 0, slots := 0, locals := 0 } : Room) := C
  unfold zf_X7_isOpen at h
  show zz_ww X (0, 0) (zz_wM a k S) 0 [(0, .ref (a 0)), (1, .int p1)] []
  refine zr_aln C 0 dX7_isOpen_0 rfl rfl rfl ?_
  refine zg_X7_6 C zi_X7_isOpen_X7 zm_X7_isOpen_7 dX7_isOpen_1 rfl ?_
  refine zr_iln C 1 dX7_isOpen_4 rfl rfl rfl ?_
  refine zl_M1 C dX7_isOpen_5 rfl h (fun h => ?_)
  refine zz_jn1_W h (fun (v1 : Int32) => zz_ww X (0, 0) (zz_wM a k S) 23 [] [.int v1]) ?_ ?_
  · intro v1 h
    obtain ⟨hb, h⟩ := zz_gd_some h
    exact hret v1 S 23 _ (0, 0) (by decide) (by decide) dX7_isOpen_23 (zz_bl_nar hb) (zz_ro h)
  intro j2 hj3 h
  refine zz_jn1_W h (fun (u4 : Unit) => zz_ww X (0, 0) (zz_wM a k S) 22 [] []) ?_ ?_
  · intro u4 h
    refine zr_ic (v := (0 : Int32)) C dX7_isOpen_22 (by decide) rfl ?_
    exact hj3 ((0 : Int32)) h
  intro j5 hj6 h
  refine zr_if_le (tgt := 22) C dX7_isOpen_6 (by decide) rfl h (fun h => ?_) (fun h => ?_)
  · refine zr_sub [] rfl ?_
    exact hj6 () h
  · refine zr_aln C 0 dX7_isOpen_9 rfl rfl rfl ?_
    refine zg_X7_15 C zi_X7_isOpen_X7 zm_X7_isOpen_39 dX7_isOpen_10 rfl ?_
    refine zr_iln C 1 dX7_isOpen_13 rfl rfl rfl ?_
    refine zl_M10 C dX7_isOpen_14 rfl h (fun h => ?_)
    refine zr_if_ne (tgt := 22) C dX7_isOpen_15 (by decide) rfl h (fun h => ?_) (fun h => ?_)
    · refine zr_sub [] rfl ?_
      exact hj6 () h
    · refine zr_ic (v := (1 : Int32)) C dX7_isOpen_18 (by decide) rfl ?_
      refine zr_goto (tgt := 23) C dX7_isOpen_19 (by decide) ?_
      refine zr_sub [] rfl ?_
      exact hj3 ((1 : Int32)) h

def zf_X7_draw (N : Nat) (S : zz_St)  : Option (Int64 × zz_St) := zz_let (zz_sl S 0 (((zz_gl S 0) * ((6364136223846793005 : Int64))) + ((1442695040888963407 : Int64)))) (fun S1 => some (((zz_gl S1 0).toUInt64 >>> (((33 : Int32)).toInt64.toUInt64 &&& Int64.toUInt64 63)).toInt64, S1))
theorem zi_X7_draw_X7 : ∀ w ∈ wsX70, w ∈ wsX7_draw := by decide +kernel
theorem zm_X7_draw_76 : Cond.fieldLink RX7 76 "GridRipUpModel" "s" "J" ∈ wsX7_draw := by decide +kernel
theorem zm_X7_draw_c154 : Jvm.Cond.constantLong RX7 154 (6364136223846793005) ∈ wsX7_draw := by decide +kernel
theorem zm_X7_draw_c156 : Jvm.Cond.constantLong RX7 156 (1442695040888963407) ∈ wsX7_draw := by decide +kernel
theorem zd_X7_draw : yX7_draw.cls = RX7 ∧ yX7_draw.cls ≠ "java/lang/invoke/MethodHandle" ∧ yX7_draw.cls ≠ "java/lang/invoke/VarHandle" ∧ (parseMethodDescriptor yX7_draw.desc).map (fun d => d.parameters.length) = some 0 := by decide +kernel
set_option maxHeartbeats 4000000 in
set_option maxRecDepth 100000 in
theorem zc_X7_draw (N : Nat) (l : Launch) (D : va_G) (k : Nat → ClassId) {a : Nat → Nat} (S : zz_St)   (v : Int64) (u : zz_St) (h : zf_X7_draw N S  = some (v, u)) : zz_ML l yX7_draw wsX7_draw ({ frames := 0, cells := 0, slots := 0, locals := 0 } : Room) D k (zz_wM a k) [.ref (a 0)] S (v, u) := by
  refine zz_metL (cc := cX7_draw) (nL := 1) (by decide) rfl (Nat.le_of_ble_eq_true rfl) ?_
  intro X C hret
  have C : zz_ok X cX7_draw RX7 wsX7_draw k 1 ({ frames := 0, cells := 0, slots := 0, locals := 0 } : Room) := C
  unfold zf_X7_draw at h
  show zz_ww X (0, 0) (zz_wM a k S) 0 [(0, .ref (a 0))] []
  refine zr_aln C 0 dX7_draw_0 rfl rfl rfl ?_
  refine zr_aln C 0 dX7_draw_1 rfl rfl rfl ?_
  refine zg_X7_4 C zi_X7_draw_X7 zm_X7_draw_76 dX7_draw_2 rfl ?_
  refine zr_ldc2 (v := (6364136223846793005 : Int64)) C dX7_draw_5 zm_X7_draw_c154 rfl ?_
  refine zr_lmul C dX7_draw_8 rfl ?_
  refine zr_ldc2 (v := (1442695040888963407 : Int64)) C dX7_draw_9 zm_X7_draw_c156 rfl ?_
  refine zr_ladd C dX7_draw_12 rfl ?_
  refine zp_X7_4 C zi_X7_draw_X7 zm_X7_draw_76 dX7_draw_13 rfl h (fun S1 h => ?_)
  refine zr_aln C 0 dX7_draw_16 rfl rfl rfl ?_
  refine zg_X7_4 C zi_X7_draw_X7 zm_X7_draw_76 dX7_draw_17 rfl ?_
  refine zr_bi (v := (33 : Int32)) C dX7_draw_20 (by decide) rfl ?_
  refine zr_lushr C dX7_draw_22 rfl ?_
  exact hret (((zz_gl S1 0).toUInt64 >>> (((33 : Int32)).toInt64.toUInt64 &&& Int64.toUInt64 63)).toInt64) S1 23 _ (0, 0) (by decide) (by decide) dX7_draw_23 h

def zf_X7_openCount (N : Nat) (S : zz_St)  : Option Int32 := zz_let ((0 : Int32)) (fun x1 => zz_let ((0 : Int32)) (fun x2 => zz_fix2 (fun rc5 (v3 : Int32) (v4 : Int32) => if (zz_gi S 4) ≤ v4 then (some (v3)) else (zz_b1 (zf_X7_isOpen N S v4) (fun x7 => zz_jn1 (fun (v8 : Int32) => zz_let (v3 + v8) (fun x11 => zz_let (v4 + (1 : Int32)) (fun x12 => rc5 x11 x12))) (fun j9 => if x7 = 0 then (j9 ((0 : Int32))) else (j9 ((1 : Int32))))))) N x1 x2))
theorem zi_X7_openCount_X7 : ∀ w ∈ wsX70, w ∈ wsX7_openCount := by decide +kernel
theorem zm_X7_openCount_94 : Cond.fieldLink RX7 94 "GridRipUpModel" "nets" "I" ∈ wsX7_openCount := by decide +kernel
theorem zd_X7_openCount : yX7_openCount.cls = RX7 ∧ yX7_openCount.cls ≠ "java/lang/invoke/MethodHandle" ∧ yX7_openCount.cls ≠ "java/lang/invoke/VarHandle" ∧ (parseMethodDescriptor yX7_openCount.desc).map (fun d => d.parameters.length) = some 0 := by decide +kernel
set_option maxHeartbeats 4000000 in
set_option maxRecDepth 100000 in
theorem zc_X7_openCount (N : Nat) (l : Launch) (D : va_G) (k : Nat → ClassId) {a : Nat → Nat} (S : zz_St)   (v : Int32) (h : zf_X7_openCount N S  = some v) : zz_MI l yX7_openCount wsX7_openCount ({ frames := 1, cells := 0, slots := 0, locals := 21 } : Room) D k (zz_wM a k) [.ref (a 0)] S (v, S) := by
  refine zz_metI (cc := cX7_openCount) (nL := 3) (ty := .int) (by decide) rfl (Nat.le_of_ble_eq_true rfl) ?_
  intro X C hret
  have C : zz_ok X cX7_openCount RX7 wsX7_openCount k 3 ({ frames := 1, cells := 0, slots := 0, locals := 21 } : Room) := C
  unfold zf_X7_openCount at h
  show zz_ww X (0, 0) (zz_wM a k S) 0 [(0, .ref (a 0))] []
  refine zr_ic (v := (0 : Int32)) C dX7_openCount_0 (by decide) rfl ?_
  refine zr_isn C [1, 0] dX7_openCount_1 rfl rfl (by decide) (fun x1 => [(0, .ref (a 0)), (1, .int x1)]) h (fun _ => rfl) (fun x1 h => ?_)
  refine zr_ic (v := (0 : Int32)) C dX7_openCount_2 (by decide) rfl ?_
  refine zr_isn C [1, 2, 0] dX7_openCount_3 rfl rfl (by decide) (fun x2 => [(0, .ref (a 0)), (1, .int x1), (2, .int x2)]) h (fun _ => rfl) (fun x2 h => ?_)
  refine zz_fix2_W (fun (v3 : Int32) (v4 : Int32) => zz_ww X (0, 0) (zz_wM a k S) 4 [(0, .ref (a 0)), (1, .int v3), (2, .int v4)] []) ?_ N x1 x2 h
  intro rc5 hr6 v3 v4 h
  refine zr_iln C 2 dX7_openCount_4 rfl rfl rfl ?_
  refine zr_aln C 0 dX7_openCount_5 rfl rfl rfl ?_
  refine zg_X7_5 C zi_X7_openCount_X7 zm_X7_openCount_94 dX7_openCount_6 rfl ?_
  refine zr_icmp_ge (tgt := 34) C dX7_openCount_9 (by decide) rfl h (fun h => ?_) (fun h => ?_)
  · refine zr_iln C 1 dX7_openCount_34 rfl rfl rfl ?_
    exact hret v3 S 35 _ (0, 0) (by decide) (by decide) dX7_openCount_35 rfl (zz_ro h)
  · refine zr_iln C 1 dX7_openCount_12 rfl rfl rfl ?_
    refine zr_aln C 0 dX7_openCount_13 rfl rfl rfl ?_
    refine zr_iln C 2 dX7_openCount_14 rfl rfl rfl ?_
    refine zr_cVir (wf := (zz_wM a k)) (st := [.int v3]) C (fun l D v hv => zc_X7_isOpen N l D k (a := a) S v4 v hv) gX7_openCount_X7_isOpen rfl zd_X7_isOpen ⟨by decide, by decide⟩ ⟨by decide, by decide⟩ rfl ⟨0, 7, _, _, _, zk_M0, rfl⟩ (Nat.le_of_ble_eq_true rfl) rfl dX7_openCount_15 rfl rfl h (fun x7 _ h => ?_)
    refine zz_jn1_W h (fun (v8 : Int32) => zz_ww X (0, 0) (zz_wM a k S) 26 [(0, .ref (a 0)), (2, .int v4)] [.int v8, .int v3]) ?_ ?_
    · intro v8 h
      refine zr_iadd C dX7_openCount_26 rfl ?_
      refine zr_isn C [1, 0, 2] dX7_openCount_27 rfl rfl (by decide) (fun x11 => [(0, .ref (a 0)), (1, .int x11), (2, .int v4)]) h (fun _ => rfl) (fun x11 h => ?_)
      refine zr_iinc (v := (1 : Int32)) C 2 [1, 2, 0] dX7_openCount_28 rfl (by decide) rfl (by decide) (fun x12 => [(0, .ref (a 0)), (1, .int x11), (2, .int x12)]) h (fun _ => rfl) (fun x12 h => ?_)
      refine zr_goto (tgt := 4) C dX7_openCount_31 (by decide) ?_
      exact hr6 x11 x12 h
    intro j9 hj10 h
    refine zr_if_eq (tgt := 25) C dX7_openCount_18 (by decide) rfl h (fun h => ?_) (fun h => ?_)
    · refine zr_ic (v := (0 : Int32)) C dX7_openCount_25 (by decide) rfl ?_
      refine zr_sub [0, 2] rfl ?_
      exact hj10 ((0 : Int32)) h
    · refine zr_ic (v := (1 : Int32)) C dX7_openCount_21 (by decide) rfl ?_
      refine zr_goto (tgt := 26) C dX7_openCount_22 (by decide) ?_
      refine zr_sub [0, 2] rfl ?_
      exact hj10 ((1 : Int32)) h

def zf_X7_turn (N : Nat) (S : zz_St)  : Option zz_St := zz_let ((0 : Int32)) (fun x1 => zz_let ((0 : Int32)) (fun x2 => zz_fix3 (fun rc6 (v3 : Int32) (v4 : Int32) (S5 : zz_St) => if (zz_gi S5 4) ≤ v4 then (zz_let (v3 - ((1 : Int32))) (fun x8 => zz_fix2 (fun rc11 (v9 : Int32) (S10 : zz_St) => if v9 ≤ 0 then (zz_let ((0 : Int32)) (fun x13 => zz_fix2 (fun rc16 (v14 : Int32) (S15 : zz_St) => if v3 ≤ v14 then (zz_let (zz_si S15 5 ((zz_gi S15 5) + ((1 : Int32)))) (fun S18 => some S18)) else (zz_gd (zz_in v14 12) (zz_b1 (zf_X7_isOpen N S15 (zz_ga S15 18 v14.toNatClampNeg)) (fun x19 => zz_jn1 (fun (S20 : zz_St) => zz_let (v14 + (1 : Int32)) (fun x23 => rc16 x23 S20)) (fun j21 => if x19 = 0 then (j21 S15) else (zz_gd (zz_in v14 12) (zz_b1 (zf_X7_lead N S15 (zz_ga S15 18 v14.toNatClampNeg)) (fun S24 => j21 S24)))))))) N x13 S10)) else (zz_b2 (zf_X7_draw N S10) (fun x26 S25 => zz_gd (!(((v9 + ((1 : Int32))).toInt64) == 0)) (zz_let ((x26 - x26 / ((v9 + ((1 : Int32))).toInt64) * ((v9 + ((1 : Int32))).toInt64)).toInt32) (fun x27 => zz_gd (zz_in v9 12) (zz_let (zz_ga S25 18 v9.toNatClampNeg) (fun x28 => zz_gd (zz_in x27 12) (zz_gd (zz_in v9 12) (zz_let (zz_sa S25 18 (upd (zz_ga S25 18) v9.toNatClampNeg (zz_ga S25 18 x27.toNatClampNeg))) (fun S29 => zz_gd (zz_in x27 12) (zz_let (zz_sa S29 18 (upd (zz_ga S29 18) x27.toNatClampNeg x28)) (fun S30 => zz_let (v9 + (-1 : Int32)) (fun x31 => rc11 x31 S30))))))))))))) N x8 S5)) else (zz_b1 (zf_X7_isOpen N S5 v4) (fun x32 => zz_jn2 (fun (v33 : Int32) (S34 : zz_St) => zz_let (v4 + (1 : Int32)) (fun x37 => rc6 v33 x37 S34)) (fun j35 => if x32 = 0 then (j35 v3 S5) else (zz_gd (zz_in v3 12) (zz_let (zz_sa S5 18 (upd (zz_ga S5 18) v3.toNatClampNeg v4)) (fun S38 => zz_let (v3 + (1 : Int32)) (fun x39 => j35 x39 S38)))))))) N x1 x2 S))
theorem zi_X7_turn_X7 : ∀ w ∈ wsX70, w ∈ wsX7_turn := by decide +kernel
theorem zm_X7_turn_94 : Cond.fieldLink RX7 94 "GridRipUpModel" "nets" "I" ∈ wsX7_turn := by decide +kernel
theorem zm_X7_turn_168 : Cond.fieldLink RX7 168 "GridRipUpModel" "rounds" "I" ∈ wsX7_turn := by decide +kernel
theorem zm_X7_turn_63 : Cond.fieldLink RX7 63 "GridRipUpModel" "order" "[I" ∈ wsX7_turn := by decide +kernel
theorem zd_X7_turn : yX7_turn.cls = RX7 ∧ yX7_turn.cls ≠ "java/lang/invoke/MethodHandle" ∧ yX7_turn.cls ≠ "java/lang/invoke/VarHandle" ∧ (parseMethodDescriptor yX7_turn.desc).map (fun d => d.parameters.length) = some 0 := by decide +kernel
set_option maxHeartbeats 4000000 in
set_option maxRecDepth 100000 in
theorem zc_X7_turn (N : Nat) (l : Launch) (D : va_G) (k : Nat → ClassId) {a : Nat → Nat} (S : zz_St)   (u : zz_St) (h : zf_X7_turn N S  = some u) : zz_MV l yX7_turn wsX7_turn ({ frames := 6, cells := 0, slots := 0, locals := 155 } : Room) D k (zz_wM a k) [.ref (a 0)] S u := by
  refine zz_metV (cc := cX7_turn) (nL := 5) (by decide) rfl (Nat.le_of_ble_eq_true rfl) ?_
  intro X C hret
  have C : zz_ok X cX7_turn RX7 wsX7_turn k 5 ({ frames := 6, cells := 0, slots := 0, locals := 155 } : Room) := C
  unfold zf_X7_turn at h
  show zz_ww X (0, 0) (zz_wM a k S) 0 [(0, .ref (a 0))] []
  refine zr_ic (v := (0 : Int32)) C dX7_turn_0 (by decide) rfl ?_
  refine zr_isn C [1, 0] dX7_turn_1 rfl rfl (by decide) (fun x1 => [(0, .ref (a 0)), (1, .int x1)]) h (fun _ => rfl) (fun x1 h => ?_)
  refine zr_ic (v := (0 : Int32)) C dX7_turn_2 (by decide) rfl ?_
  refine zr_isn C [1, 2, 0] dX7_turn_3 rfl rfl (by decide) (fun x2 => [(0, .ref (a 0)), (1, .int x1), (2, .int x2)]) h (fun _ => rfl) (fun x2 h => ?_)
  refine zz_fix3_W (fun (v3 : Int32) (v4 : Int32) (S5 : zz_St) => zz_ww X (0, 0) (zz_wM a k S5) 4 [(0, .ref (a 0)), (1, .int v3), (2, .int v4)] []) ?_ N x1 x2 S h
  intro rc6 hr7 v3 v4 S5 h
  refine zr_iln C 2 dX7_turn_4 rfl rfl rfl ?_
  refine zr_aln C 0 dX7_turn_5 rfl rfl rfl ?_
  refine zg_X7_5 C zi_X7_turn_X7 zm_X7_turn_94 dX7_turn_6 rfl ?_
  refine zr_icmp_ge (tgt := 39) C dX7_turn_9 (by decide) rfl h (fun h => ?_) (fun h => ?_)
  · refine zr_iln C 1 dX7_turn_39 rfl rfl rfl ?_
    refine zr_ic (v := (1 : Int32)) C dX7_turn_40 (by decide) rfl ?_
    refine zr_isub C dX7_turn_41 rfl ?_
    refine zr_isn C [1, 2, 0] dX7_turn_42 rfl rfl (by decide) (fun x8 => [(0, .ref (a 0)), (1, .int v3), (2, .int x8)]) h (fun _ => rfl) (fun x8 h => ?_)
    refine zz_fix2_W (fun (v9 : Int32) (S10 : zz_St) => zz_ww X (0, 0) (zz_wM a k S10) 43 [(0, .ref (a 0)), (1, .int v3), (2, .int v9)] []) ?_ N x8 S5 h
    intro rc11 hr12 v9 S10 h
    refine zr_iln C 2 dX7_turn_43 rfl rfl rfl ?_
    refine zr_if_le (tgt := 92) C dX7_turn_44 (by decide) rfl h (fun h => ?_) (fun h => ?_)
    · refine zr_ic (v := (0 : Int32)) C dX7_turn_92 (by decide) rfl ?_
      refine zr_isn C [1, 2, 0] dX7_turn_93 rfl rfl (by decide) (fun x13 => [(0, .ref (a 0)), (1, .int v3), (2, .int x13)]) h (fun _ => rfl) (fun x13 h => ?_)
      refine zz_fix2_W (fun (v14 : Int32) (S15 : zz_St) => zz_ww X (0, 0) (zz_wM a k S15) 94 [(0, .ref (a 0)), (1, .int v3), (2, .int v14)] []) ?_ N x13 S10 h
      intro rc16 hr17 v14 S15 h
      refine zr_iln C 2 dX7_turn_94 rfl rfl rfl ?_
      refine zr_iln C 1 dX7_turn_95 rfl rfl rfl ?_
      refine zr_icmp_ge (tgt := 128) C dX7_turn_96 (by decide) rfl h (fun h => ?_) (fun h => ?_)
      · refine zr_aln C 0 dX7_turn_128 rfl rfl rfl ?_
        refine zr_dup C dX7_turn_129 rfl rfl ?_
        refine zg_X7_21 C zi_X7_turn_X7 zm_X7_turn_168 dX7_turn_130 rfl ?_
        refine zr_ic (v := (1 : Int32)) C dX7_turn_133 (by decide) rfl ?_
        refine zr_iadd C dX7_turn_134 rfl ?_
        refine zp_X7_21 C zi_X7_turn_X7 zm_X7_turn_168 dX7_turn_135 rfl h (fun S18 h => ?_)
        exact hret S18 138 _ (0, 0) (by decide) (by decide) dX7_turn_138 h
      · refine zr_aln C 0 dX7_turn_99 rfl rfl rfl ?_
        refine zr_aln C 0 dX7_turn_100 rfl rfl rfl ?_
        refine zg_X7_24 C zi_X7_turn_X7 zm_X7_turn_63 dX7_turn_101 rfl ?_
        refine zr_iln C 2 dX7_turn_104 rfl rfl rfl ?_
        refine zl_M18 C dX7_turn_105 rfl h (fun h => ?_)
        refine zr_cVir (wf := (zz_wM a k)) (st := []) C (fun l D v hv => zc_X7_isOpen N l D k (a := a) S15 (zz_ga S15 18 v14.toNatClampNeg) v hv) gX7_turn_X7_isOpen rfl zd_X7_isOpen ⟨by decide, by decide⟩ ⟨by decide, by decide⟩ rfl ⟨0, 7, _, _, _, zk_M0, rfl⟩ (Nat.le_of_ble_eq_true rfl) rfl dX7_turn_106 rfl rfl h (fun x19 _ h => ?_)
        refine zz_jn1_W h (fun (S20 : zz_St) => zz_ww X (0, 0) (zz_wM a k S20) 122 [(0, .ref (a 0)), (1, .int v3), (2, .int v14)] []) ?_ ?_
        · intro S20 h
          refine zr_iinc (v := (1 : Int32)) C 2 [1, 2, 0] dX7_turn_122 rfl (by decide) rfl (by decide) (fun x23 => [(0, .ref (a 0)), (1, .int v3), (2, .int x23)]) h (fun _ => rfl) (fun x23 h => ?_)
          refine zr_goto (tgt := 94) C dX7_turn_125 (by decide) ?_
          exact hr17 x23 S20 h
        intro j21 hj22 h
        refine zr_if_eq (tgt := 122) C dX7_turn_109 (by decide) rfl h (fun h => ?_) (fun h => ?_)
        · exact hj22 S15 h
        · refine zr_aln C 0 dX7_turn_112 rfl rfl rfl ?_
          refine zr_aln C 0 dX7_turn_113 rfl rfl rfl ?_
          refine zg_X7_24 C zi_X7_turn_X7 zm_X7_turn_63 dX7_turn_114 rfl ?_
          refine zr_iln C 2 dX7_turn_117 rfl rfl rfl ?_
          refine zl_M18 C dX7_turn_118 rfl h (fun h => ?_)
          refine zr_cVv (wf := (zz_wM a k)) (st := []) C (fun l D u hu => zc_X7_lead N l D k (a := a) S15 (zz_ga S15 18 v14.toNatClampNeg) u hu) gX7_turn_X7_lead rfl zd_X7_lead ⟨by decide, by decide⟩ ⟨by decide, by decide⟩ rfl ⟨0, 7, _, _, _, zk_M0, rfl⟩ (Nat.le_of_ble_eq_true rfl) rfl dX7_turn_119 rfl rfl h (fun S24 _ h => ?_)
          exact hj22 S24 h
    · refine zr_aln C 0 dX7_turn_47 rfl rfl rfl ?_
      refine zr_cVl (wf := (zz_wM a k)) (st := []) C (fun l D v u hu => zc_X7_draw N l D k (a := a) S10  v u hu) gX7_turn_X7_draw rfl zd_X7_draw ⟨by decide, by decide⟩ ⟨by decide, by decide⟩ rfl ⟨0, 7, _, _, _, zk_M0, rfl⟩ (Nat.le_of_ble_eq_true rfl) rfl dX7_turn_48 rfl rfl h (fun x26 S25 _ h => ?_)
      refine zr_iln C 2 dX7_turn_51 rfl rfl rfl ?_
      refine zr_ic (v := (1 : Int32)) C dX7_turn_52 (by decide) rfl ?_
      refine zr_iadd C dX7_turn_53 rfl ?_
      refine zr_i2l C dX7_turn_54 rfl ?_
      refine zr_lrem C dX7_turn_55 rfl h (fun h => ?_)
      refine zr_l2i C dX7_turn_56 rfl ?_
      refine zr_isn C [1, 2, 3, 0] dX7_turn_57 rfl rfl (by decide) (fun x27 => [(0, .ref (a 0)), (1, .int v3), (2, .int v9), (3, .int x27)]) h (fun _ => rfl) (fun x27 h => ?_)
      refine zr_aln C 0 dX7_turn_58 rfl rfl rfl ?_
      refine zg_X7_24 C zi_X7_turn_X7 zm_X7_turn_63 dX7_turn_59 rfl ?_
      refine zr_iln C 2 dX7_turn_62 rfl rfl rfl ?_
      refine zl_M18 C dX7_turn_63 rfl h (fun h => ?_)
      refine zr_is C [1, 2, 3, 4, 0] dX7_turn_64 rfl (by decide) (fun x28 => [(0, .ref (a 0)), (1, .int v3), (2, .int v9), (3, .int x27), (4, .int x28)]) h (fun _ => rfl) (fun x28 h => ?_)
      refine zr_aln C 0 dX7_turn_66 rfl rfl rfl ?_
      refine zg_X7_24 C zi_X7_turn_X7 zm_X7_turn_63 dX7_turn_67 rfl ?_
      refine zr_iln C 2 dX7_turn_70 rfl rfl rfl ?_
      refine zr_aln C 0 dX7_turn_71 rfl rfl rfl ?_
      refine zg_X7_24 C zi_X7_turn_X7 zm_X7_turn_63 dX7_turn_72 rfl ?_
      refine zr_iln C 3 dX7_turn_75 rfl rfl rfl ?_
      refine zl_M18 C dX7_turn_76 rfl h (fun h => ?_)
      refine zs_M18 C dX7_turn_77 rfl h (fun S29 h => ?_)
      refine zr_aln C 0 dX7_turn_78 rfl rfl rfl ?_
      refine zg_X7_24 C zi_X7_turn_X7 zm_X7_turn_63 dX7_turn_79 rfl ?_
      refine zr_iln C 3 dX7_turn_82 rfl rfl rfl ?_
      refine zr_il C 4 dX7_turn_83 rfl rfl ?_
      refine zs_M18 C dX7_turn_85 rfl h (fun S30 h => ?_)
      refine zr_iinc (v := (-1 : Int32)) C 2 [1, 2, 0, 3, 4] dX7_turn_86 rfl (by decide) rfl (by decide) (fun x31 => [(0, .ref (a 0)), (1, .int v3), (2, .int x31), (3, .int x27), (4, .int x28)]) h (fun _ => rfl) (fun x31 h => ?_)
      refine zr_goto (tgt := 43) C dX7_turn_89 (by decide) ?_
      refine zr_sub [0, 1, 2] rfl ?_
      exact hr12 x31 S30 h
  · refine zr_aln C 0 dX7_turn_12 rfl rfl rfl ?_
    refine zr_iln C 2 dX7_turn_13 rfl rfl rfl ?_
    refine zr_cVir (wf := (zz_wM a k)) (st := []) C (fun l D v hv => zc_X7_isOpen N l D k (a := a) S5 v4 v hv) gX7_turn_X7_isOpen rfl zd_X7_isOpen ⟨by decide, by decide⟩ ⟨by decide, by decide⟩ rfl ⟨0, 7, _, _, _, zk_M0, rfl⟩ (Nat.le_of_ble_eq_true rfl) rfl dX7_turn_14 rfl rfl h (fun x32 _ h => ?_)
    refine zz_jn2_W h (fun (v33 : Int32) (S34 : zz_St) => zz_ww X (0, 0) (zz_wM a k S34) 33 [(0, .ref (a 0)), (1, .int v33), (2, .int v4)] []) ?_ ?_
    · intro v33 S34 h
      refine zr_iinc (v := (1 : Int32)) C 2 [1, 2, 0] dX7_turn_33 rfl (by decide) rfl (by decide) (fun x37 => [(0, .ref (a 0)), (1, .int v33), (2, .int x37)]) h (fun _ => rfl) (fun x37 h => ?_)
      refine zr_goto (tgt := 4) C dX7_turn_36 (by decide) ?_
      exact hr7 v33 x37 S34 h
    intro j35 hj36 h
    refine zr_if_ne (tgt := 23) C dX7_turn_17 (by decide) rfl h (fun h => ?_) (fun h => ?_)
    · refine zr_aln C 0 dX7_turn_23 rfl rfl rfl ?_
      refine zg_X7_24 C zi_X7_turn_X7 zm_X7_turn_63 dX7_turn_24 rfl ?_
      refine zr_iln C 1 dX7_turn_27 rfl rfl rfl ?_
      refine zr_iln C 2 dX7_turn_28 rfl rfl rfl ?_
      refine zs_M18 C dX7_turn_29 rfl h (fun S38 h => ?_)
      refine zr_iinc (v := (1 : Int32)) C 1 [1, 0, 2] dX7_turn_30 rfl (by decide) rfl (by decide) (fun x39 => [(0, .ref (a 0)), (1, .int x39), (2, .int v4)]) h (fun _ => rfl) (fun x39 h => ?_)
      exact hj36 x39 S38 h
    · refine zr_goto (tgt := 33) C dX7_turn_20 (by decide) ?_
      exact hj36 v3 S5 h

def zf_X7_run (N : Nat) (S : zz_St) (p1 : Int32) : Option (Int32 × zz_St) := zz_jn1 (fun (v1 : Int32) => zz_let (zz_si S 0 v1) (fun S4 => if (zz_gi S4 0) = 0 then (zz_let ((0 : Int32)) (fun x5 => zz_fix2 (fun rc8 (v6 : Int32) (S7 : zz_St) => zz_jn1 (fun (u10 : Unit) => zz_b1 (zf_X7_openCount N S7) (fun x13 => some (x13, S7))) (fun j11 => if p1 ≤ v6 then (j11 ()) else (zz_b1 (zf_X7_openCount N S7) (fun x14 => if x14 ≤ 0 then (j11 ()) else (zz_b1 (zf_X7_turn N S7) (fun S15 => zz_let (v6 + (1 : Int32)) (fun x16 => rc8 x16 S15))))))) N x5 S4)) else (some ((0 : Int32), S4)))) (fun j2 => zz_jn1 (fun (u17 : Unit) => j2 ((1 : Int32))) (fun j18 => if p1 < ((1 : Int32)) then (j18 ()) else (if ((20 : Int32)) < p1 then (j18 ()) else (j2 ((0 : Int32))))))
theorem zi_X7_run_X7 : ∀ w ∈ wsX70, w ∈ wsX7_run := by decide +kernel
theorem zm_X7_run_80 : Cond.fieldLink RX7 80 "GridRipUpModel" "thrown" "I" ∈ wsX7_run := by decide +kernel
theorem zd_X7_run : yX7_run.cls = RX7 ∧ yX7_run.cls ≠ "java/lang/invoke/MethodHandle" ∧ yX7_run.cls ≠ "java/lang/invoke/VarHandle" ∧ (parseMethodDescriptor yX7_run.desc).map (fun d => d.parameters.length) = some 1 := by decide +kernel
set_option maxHeartbeats 4000000 in
set_option maxRecDepth 100000 in
theorem zc_X7_run (N : Nat) (l : Launch) (D : va_G) (k : Nat → ClassId) {a : Nat → Nat} (S : zz_St) (p1 : Int32)  (v : Int32) (u : zz_St) (h : zf_X7_run N S p1 = some (v, u)) : zz_MI l yX7_run wsX7_run ({ frames := 7, cells := 0, slots := 0, locals := 179 } : Room) D k (zz_wM a k) [.ref (a 0), .int p1] S (v, u) := by
  refine zz_metI (cc := cX7_run) (nL := 3) (ty := .int) (by decide) rfl (Nat.le_of_ble_eq_true rfl) ?_
  intro X C hret
  have C : zz_ok X cX7_run RX7 wsX7_run k 3 ({ frames := 7, cells := 0, slots := 0, locals := 179 } : Room) := C
  unfold zf_X7_run at h
  show zz_ww X (0, 0) (zz_wM a k S) 0 [(0, .ref (a 0)), (1, .int p1)] []
  refine zr_aln C 0 dX7_run_0 rfl rfl rfl ?_
  refine zr_iln C 1 dX7_run_1 rfl rfl rfl ?_
  refine zr_ic (v := (1 : Int32)) C dX7_run_2 (by decide) rfl ?_
  refine zz_jn1_W h (fun (v1 : Int32) => zz_ww X (0, 0) (zz_wM a k S) 17 [(0, .ref (a 0)), (1, .int p1)] [.int v1, .ref (a 0)]) ?_ ?_
  · intro v1 h
    refine zp_X7_0 C zi_X7_run_X7 zm_X7_run_80 dX7_run_17 rfl h (fun S4 h => ?_)
    refine zr_aln C 0 dX7_run_20 rfl rfl rfl ?_
    refine zg_X7_0 C zi_X7_run_X7 zm_X7_run_80 dX7_run_21 rfl ?_
    refine zr_if_eq (tgt := 29) C dX7_run_24 (by decide) rfl h (fun h => ?_) (fun h => ?_)
    · refine zr_ic (v := (0 : Int32)) C dX7_run_29 (by decide) rfl ?_
      refine zr_isn C [1, 2, 0] dX7_run_30 rfl rfl (by decide) (fun x5 => [(0, .ref (a 0)), (1, .int p1), (2, .int x5)]) h (fun _ => rfl) (fun x5 h => ?_)
      refine zz_fix2_W (fun (v6 : Int32) (S7 : zz_St) => zz_ww X (0, 0) (zz_wM a k S7) 31 [(0, .ref (a 0)), (1, .int p1), (2, .int v6)] []) ?_ N x5 S4 h
      intro rc8 hr9 v6 S7 h
      refine zr_iln C 2 dX7_run_31 rfl rfl rfl ?_
      refine zr_iln C 1 dX7_run_32 rfl rfl rfl ?_
      refine zz_jn1_W h (fun (u10 : Unit) => zz_ww X (0, 0) (zz_wM a k S7) 53 [(0, .ref (a 0))] []) ?_ ?_
      · intro u10 h
        refine zr_aln C 0 dX7_run_53 rfl rfl rfl ?_
        refine zr_cVir (wf := (zz_wM a k)) (st := []) C (fun l D v hv => zc_X7_openCount N l D k (a := a) S7  v hv) gX7_run_X7_openCount rfl zd_X7_openCount ⟨by decide, by decide⟩ ⟨by decide, by decide⟩ rfl ⟨0, 7, _, _, _, zk_M0, rfl⟩ (Nat.le_of_ble_eq_true rfl) rfl dX7_run_54 rfl rfl h (fun x13 _ h => ?_)
        exact hret x13 S7 57 _ (0, 0) (by decide) (by decide) dX7_run_57 rfl h
      intro j11 hj12 h
      refine zr_icmp_ge (tgt := 53) C dX7_run_33 (by decide) rfl h (fun h => ?_) (fun h => ?_)
      · refine zr_sub [0] rfl ?_
        exact hj12 () h
      · refine zr_aln C 0 dX7_run_36 rfl rfl rfl ?_
        refine zr_cVir (wf := (zz_wM a k)) (st := []) C (fun l D v hv => zc_X7_openCount N l D k (a := a) S7  v hv) gX7_run_X7_openCount rfl zd_X7_openCount ⟨by decide, by decide⟩ ⟨by decide, by decide⟩ rfl ⟨0, 7, _, _, _, zk_M0, rfl⟩ (Nat.le_of_ble_eq_true rfl) rfl dX7_run_37 rfl rfl h (fun x14 _ h => ?_)
        refine zr_if_le (tgt := 53) C dX7_run_40 (by decide) rfl h (fun h => ?_) (fun h => ?_)
        · refine zr_sub [0] rfl ?_
          exact hj12 () h
        · refine zr_aln C 0 dX7_run_43 rfl rfl rfl ?_
          refine zr_cVv (wf := (zz_wM a k)) (st := []) C (fun l D u hu => zc_X7_turn N l D k (a := a) S7  u hu) gX7_run_X7_turn rfl zd_X7_turn ⟨by decide, by decide⟩ ⟨by decide, by decide⟩ rfl ⟨0, 7, _, _, _, zk_M0, rfl⟩ (Nat.le_of_ble_eq_true rfl) rfl dX7_run_44 rfl rfl h (fun S15 _ h => ?_)
          refine zr_iinc (v := (1 : Int32)) C 2 [1, 2, 0] dX7_run_47 rfl (by decide) rfl (by decide) (fun x16 => [(0, .ref (a 0)), (1, .int p1), (2, .int x16)]) h (fun _ => rfl) (fun x16 h => ?_)
          refine zr_goto (tgt := 31) C dX7_run_50 (by decide) ?_
          exact hr9 x16 S15 h
    · refine zr_ic (v := (0 : Int32)) C dX7_run_27 (by decide) rfl ?_
      exact hret ((0 : Int32)) S4 28 _ (0, 0) (by decide) (by decide) dX7_run_28 rfl h
  intro j2 hj3 h
  refine zz_jn1_W h (fun (u17 : Unit) => zz_ww X (0, 0) (zz_wM a k S) 16 [(0, .ref (a 0)), (1, .int p1)] [.ref (a 0)]) ?_ ?_
  · intro u17 h
    refine zr_ic (v := (1 : Int32)) C dX7_run_16 (by decide) rfl ?_
    exact hj3 ((1 : Int32)) h
  intro j18 hj19 h
  refine zr_icmp_lt (tgt := 16) C dX7_run_3 (by decide) rfl h (fun h => ?_) (fun h => ?_)
  · exact hj19 () h
  · refine zr_iln C 1 dX7_run_6 rfl rfl rfl ?_
    refine zr_bi (v := (20 : Int32)) C dX7_run_7 (by decide) rfl ?_
    refine zr_icmp_gt (tgt := 16) C dX7_run_9 (by decide) rfl h (fun h => ?_) (fun h => ?_)
    · exact hj19 () h
    · refine zr_ic (v := (0 : Int32)) C dX7_run_12 (by decide) rfl ?_
      refine zr_goto (tgt := 17) C dX7_run_13 (by decide) ?_
      exact hj3 ((0 : Int32)) h

def zf_X7_piece (N : Nat) (S : zz_St) (p1 : Int32) (p2 : Int32) (p3 : Int32) : Option (Int32 × zz_St) := zz_b1 (zf_X7_isNet N S p1) (fun x1 => zz_jn1 (fun (v2 : Int32) => zz_let v2 (fun x5 => zz_jn1 (fun (v6 : Int32) => zz_let (zz_si S 0 v6) (fun S9 => if (zz_gi S9 0) = 0 then (zz_gd (zz_in ((((1024 : Int32)) * p1) + p2) 12288) (zz_let (zz_ga S9 12 ((((1024 : Int32)) * p1) + p2).toNatClampNeg) (fun x10 => zz_jn1 (fun (v11 : Int32) => some (v11, S9)) (fun j12 => if p3 = 0 then (zz_b1 (zf_X7_layerOf N S9 x10) (fun x15 => j12 x15)) else (if p3 = ((1 : Int32)) then (zz_gd (!((zz_gi S9 1) == 0)) (j12 (x10 - x10 / (zz_gi S9 1) * (zz_gi S9 1)))) else (zz_b1 (zf_X7_rowOf N S9 x10) (fun x14 => j12 x14))))))) else (some ((0 : Int32), S9)))) (fun j7 => if x5 = 0 then (j7 ((1 : Int32))) else (j7 ((0 : Int32)))))) (fun j3 => zz_jn1 (fun (u16 : Unit) => j3 ((0 : Int32))) (fun j17 => if x1 = 0 then (j17 ()) else (zz_gd (zz_in p1 12) (if (zz_ga S 10 p1.toNatClampNeg) = 0 then (j17 ()) else (if p2 < 0 then (j17 ()) else (zz_gd (zz_in p1 12) (if (zz_ga S 11 p1.toNatClampNeg) ≤ p2 then (j17 ()) else (if p3 < 0 then (j17 ()) else (if ((3 : Int32)) ≤ p3 then (j17 ()) else (j3 ((1 : Int32)))))))))))))
theorem zi_X7_piece_X7 : ∀ w ∈ wsX70, w ∈ wsX7_piece := by decide +kernel
theorem zm_X7_piece_80 : Cond.fieldLink RX7 80 "GridRipUpModel" "thrown" "I" ∈ wsX7_piece := by decide +kernel
theorem zm_X7_piece_45 : Cond.fieldLink RX7 45 "GridRipUpModel" "tree" "[I" ∈ wsX7_piece := by decide +kernel
theorem zm_X7_piece_66 : Cond.fieldLink RX7 66 "GridRipUpModel" "wide" "I" ∈ wsX7_piece := by decide +kernel
theorem zm_X7_piece_39 : Cond.fieldLink RX7 39 "GridRipUpModel" "led" "[Z" ∈ wsX7_piece := by decide +kernel
theorem zm_X7_piece_42 : Cond.fieldLink RX7 42 "GridRipUpModel" "treeSize" "[I" ∈ wsX7_piece := by decide +kernel
theorem zd_X7_piece : yX7_piece.cls = RX7 ∧ yX7_piece.cls ≠ "java/lang/invoke/MethodHandle" ∧ yX7_piece.cls ≠ "java/lang/invoke/VarHandle" ∧ (parseMethodDescriptor yX7_piece.desc).map (fun d => d.parameters.length) = some 3 := by decide +kernel
set_option maxHeartbeats 4000000 in
set_option maxRecDepth 100000 in
theorem zc_X7_piece (N : Nat) (l : Launch) (D : va_G) (k : Nat → ClassId) {a : Nat → Nat} (S : zz_St) (p1 : Int32) (p2 : Int32) (p3 : Int32)  (v : Int32) (u : zz_St) (h : zf_X7_piece N S p1 p2 p3 = some (v, u)) : zz_MI l yX7_piece wsX7_piece ({ frames := 1, cells := 0, slots := 0, locals := 21 } : Room) D k (zz_wM a k) [.ref (a 0), .int p1, .int p2, .int p3] S (v, u) := by
  refine zz_metI (cc := cX7_piece) (nL := 6) (ty := .int) (by decide) rfl (Nat.le_of_ble_eq_true rfl) ?_
  intro X C hret
  have C : zz_ok X cX7_piece RX7 wsX7_piece k 6 ({ frames := 1, cells := 0, slots := 0, locals := 21 } : Room) := C
  unfold zf_X7_piece at h
  show zz_ww X (0, 0) (zz_wM a k S) 0 [(0, .ref (a 0)), (1, .int p1), (2, .int p2), (3, .int p3)] []
  refine zr_aln C 0 dX7_piece_0 rfl rfl rfl ?_
  refine zr_iln C 1 dX7_piece_1 rfl rfl rfl ?_
  refine zr_cVir (wf := (zz_wM a k)) (st := []) C (fun l D v hv => zc_X7_isNet N l D k (a := a) S p1 v hv) gX7_piece_X7_isNet rfl zd_X7_isNet ⟨by decide, by decide⟩ ⟨by decide, by decide⟩ rfl ⟨0, 7, _, _, _, zk_M0, rfl⟩ (Nat.le_of_ble_eq_true rfl) rfl dX7_piece_2 rfl rfl h (fun x1 _ h => ?_)
  refine zz_jn1_W h (fun (v2 : Int32) => zz_ww X (0, 0) (zz_wM a k S) 45 [(0, .ref (a 0)), (1, .int p1), (2, .int p2), (3, .int p3)] [.int v2]) ?_ ?_
  · intro v2 h
    refine zr_is C [1, 2, 3, 4, 0] dX7_piece_45 rfl (by decide) (fun x5 => [(0, .ref (a 0)), (1, .int p1), (2, .int p2), (3, .int p3), (4, .int x5)]) h (fun _ => rfl) (fun x5 h => ?_)
    refine zr_aln C 0 dX7_piece_47 rfl rfl rfl ?_
    refine zr_il C 4 dX7_piece_48 rfl rfl ?_
    refine zz_jn1_W h (fun (v6 : Int32) => zz_ww X (0, 0) (zz_wM a k S) 58 [(0, .ref (a 0)), (1, .int p1), (2, .int p2), (3, .int p3)] [.int v6, .ref (a 0)]) ?_ ?_
    · intro v6 h
      refine zp_X7_0 C zi_X7_piece_X7 zm_X7_piece_80 dX7_piece_58 rfl h (fun S9 h => ?_)
      refine zr_aln C 0 dX7_piece_61 rfl rfl rfl ?_
      refine zg_X7_0 C zi_X7_piece_X7 zm_X7_piece_80 dX7_piece_62 rfl ?_
      refine zr_if_eq (tgt := 70) C dX7_piece_65 (by decide) rfl h (fun h => ?_) (fun h => ?_)
      · refine zr_aln C 0 dX7_piece_70 rfl rfl rfl ?_
        refine zg_X7_17 C zi_X7_piece_X7 zm_X7_piece_45 dX7_piece_71 rfl ?_
        refine zr_si (v := (1024 : Int32)) C dX7_piece_74 (by decide) rfl ?_
        refine zr_iln C 1 dX7_piece_77 rfl rfl rfl ?_
        refine zr_imul C dX7_piece_78 rfl ?_
        refine zr_iln C 2 dX7_piece_79 rfl rfl rfl ?_
        refine zr_iadd C dX7_piece_80 rfl ?_
        refine zl_M12 C dX7_piece_81 rfl h (fun h => ?_)
        refine zr_is C [1, 2, 3, 4, 0] dX7_piece_82 rfl (by decide) (fun x10 => [(0, .ref (a 0)), (1, .int p1), (2, .int p2), (3, .int p3), (5, .int x10)]) h (fun _ => rfl) (fun x10 h => ?_)
        refine zr_iln C 3 dX7_piece_84 rfl rfl rfl ?_
        refine zz_jn1_W h (fun (v11 : Int32) => zz_ww X (0, 0) (zz_wM a k S9) 118 [] [.int v11]) ?_ ?_
        · intro v11 h
          exact hret v11 S9 118 _ (0, 0) (by decide) (by decide) dX7_piece_118 rfl h
        intro j12 hj13 h
        refine zr_if_ne (tgt := 97) C dX7_piece_85 (by decide) rfl h (fun h => ?_) (fun h => ?_)
        · refine zr_iln C 3 dX7_piece_97 rfl rfl rfl ?_
          refine zr_ic (v := (1 : Int32)) C dX7_piece_98 (by decide) rfl ?_
          refine zr_icmp_ne (tgt := 112) C dX7_piece_99 (by decide) rfl h (fun h => ?_) (fun h => ?_)
          · refine zr_aln C 0 dX7_piece_112 rfl rfl rfl ?_
            refine zr_il C 4 dX7_piece_113 rfl rfl ?_
            refine zr_cVir (wf := (zz_wM a k)) (st := []) C (fun l D v hv => zc_X7_rowOf N l D k (a := a) S9 x10 v hv) gX7_piece_X7_rowOf rfl zd_X7_rowOf ⟨by decide, by decide⟩ ⟨by decide, by decide⟩ rfl ⟨0, 7, _, _, _, zk_M0, rfl⟩ (Nat.le_of_ble_eq_true rfl) rfl dX7_piece_115 rfl rfl h (fun x14 _ h => ?_)
            refine zr_sub [] rfl ?_
            exact hj13 x14 h
          · refine zr_il C 4 dX7_piece_102 rfl rfl ?_
            refine zr_aln C 0 dX7_piece_104 rfl rfl rfl ?_
            refine zg_X7_1 C zi_X7_piece_X7 zm_X7_piece_66 dX7_piece_105 rfl ?_
            refine zr_irem C dX7_piece_108 rfl h (fun h => ?_)
            refine zr_goto (tgt := 118) C dX7_piece_109 (by decide) ?_
            refine zr_sub [] rfl ?_
            exact hj13 (x10 - x10 / (zz_gi S9 1) * (zz_gi S9 1)) h
        · refine zr_aln C 0 dX7_piece_88 rfl rfl rfl ?_
          refine zr_il C 4 dX7_piece_89 rfl rfl ?_
          refine zr_cVir (wf := (zz_wM a k)) (st := []) C (fun l D v hv => zc_X7_layerOf N l D k (a := a) S9 x10 v hv) gX7_piece_X7_layerOf rfl zd_X7_layerOf ⟨by decide, by decide⟩ ⟨by decide, by decide⟩ rfl ⟨0, 7, _, _, _, zk_M0, rfl⟩ (Nat.le_of_ble_eq_true rfl) rfl dX7_piece_91 rfl rfl h (fun x15 _ h => ?_)
          refine zr_goto (tgt := 118) C dX7_piece_94 (by decide) ?_
          refine zr_sub [] rfl ?_
          exact hj13 x15 h
      · refine zr_ic (v := (0 : Int32)) C dX7_piece_68 (by decide) rfl ?_
        exact hret ((0 : Int32)) S9 69 _ (0, 0) (by decide) (by decide) dX7_piece_69 rfl h
    intro j7 hj8 h
    refine zr_if_eq (tgt := 57) C dX7_piece_50 (by decide) rfl h (fun h => ?_) (fun h => ?_)
    · refine zr_ic (v := (1 : Int32)) C dX7_piece_57 (by decide) rfl ?_
      refine zr_sub [0, 1, 2, 3] rfl ?_
      exact hj8 ((1 : Int32)) h
    · refine zr_ic (v := (0 : Int32)) C dX7_piece_53 (by decide) rfl ?_
      refine zr_goto (tgt := 58) C dX7_piece_54 (by decide) ?_
      refine zr_sub [0, 1, 2, 3] rfl ?_
      exact hj8 ((0 : Int32)) h
  intro j3 hj4 h
  refine zz_jn1_W h (fun (u16 : Unit) => zz_ww X (0, 0) (zz_wM a k S) 44 [(0, .ref (a 0)), (1, .int p1), (2, .int p2), (3, .int p3)] []) ?_ ?_
  · intro u16 h
    refine zr_ic (v := (0 : Int32)) C dX7_piece_44 (by decide) rfl ?_
    exact hj4 ((0 : Int32)) h
  intro j17 hj18 h
  refine zr_if_eq (tgt := 44) C dX7_piece_5 (by decide) rfl h (fun h => ?_) (fun h => ?_)
  · exact hj18 () h
  · refine zr_aln C 0 dX7_piece_8 rfl rfl rfl ?_
    refine zg_X7_15 C zi_X7_piece_X7 zm_X7_piece_39 dX7_piece_9 rfl ?_
    refine zr_iln C 1 dX7_piece_12 rfl rfl rfl ?_
    refine zl_M10 C dX7_piece_13 rfl h (fun h => ?_)
    refine zr_if_eq (tgt := 44) C dX7_piece_14 (by decide) rfl h (fun h => ?_) (fun h => ?_)
    · exact hj18 () h
    · refine zr_iln C 2 dX7_piece_17 rfl rfl rfl ?_
      refine zr_if_lt (tgt := 44) C dX7_piece_18 (by decide) rfl h (fun h => ?_) (fun h => ?_)
      · exact hj18 () h
      · refine zr_iln C 2 dX7_piece_21 rfl rfl rfl ?_
        refine zr_aln C 0 dX7_piece_22 rfl rfl rfl ?_
        refine zg_X7_16 C zi_X7_piece_X7 zm_X7_piece_42 dX7_piece_23 rfl ?_
        refine zr_iln C 1 dX7_piece_26 rfl rfl rfl ?_
        refine zl_M11 C dX7_piece_27 rfl h (fun h => ?_)
        refine zr_icmp_ge (tgt := 44) C dX7_piece_28 (by decide) rfl h (fun h => ?_) (fun h => ?_)
        · exact hj18 () h
        · refine zr_iln C 3 dX7_piece_31 rfl rfl rfl ?_
          refine zr_if_lt (tgt := 44) C dX7_piece_32 (by decide) rfl h (fun h => ?_) (fun h => ?_)
          · exact hj18 () h
          · refine zr_iln C 3 dX7_piece_35 rfl rfl rfl ?_
            refine zr_ic (v := (3 : Int32)) C dX7_piece_36 (by decide) rfl ?_
            refine zr_icmp_ge (tgt := 44) C dX7_piece_37 (by decide) rfl h (fun h => ?_) (fun h => ?_)
            · exact hj18 () h
            · refine zr_ic (v := (1 : Int32)) C dX7_piece_40 (by decide) rfl ?_
              refine zr_goto (tgt := 45) C dX7_piece_41 (by decide) ?_
              exact hj4 ((1 : Int32)) h

def zf_X7_costOf (N : Nat) (S : zz_St) (p1 : Int32) : Option (Int64 × zz_St) := zz_b1 (zf_X7_isNet N S p1) (fun x1 => zz_jn1 (fun (v2 : Int32) => zz_let (zz_si S 0 v2) (fun S5 => zz_jn1 (fun (v6 : Int64) => some (v6, S5)) (fun j7 => if (zz_gi S5 0) = 0 then (zz_gd (zz_in p1 12) (if (zz_ga S5 10 p1.toNatClampNeg) = 0 then (j7 ((-1 : Int64))) else (zz_gd (zz_in p1 12) (j7 (zz_gA S5 13 p1.toNatClampNeg))))) else (j7 ((0 : Int64)))))) (fun j3 => if x1 = 0 then (j3 ((1 : Int32))) else (j3 ((0 : Int32)))))
theorem zi_X7_costOf_X7 : ∀ w ∈ wsX70, w ∈ wsX7_costOf := by decide +kernel
theorem zm_X7_costOf_80 : Cond.fieldLink RX7 80 "GridRipUpModel" "thrown" "I" ∈ wsX7_costOf := by decide +kernel
theorem zm_X7_costOf_39 : Cond.fieldLink RX7 39 "GridRipUpModel" "led" "[Z" ∈ wsX7_costOf := by decide +kernel
theorem zm_X7_costOf_c116 : Jvm.Cond.constantLong RX7 116 (-1) ∈ wsX7_costOf := by decide +kernel
theorem zm_X7_costOf_48 : Cond.fieldLink RX7 48 "GridRipUpModel" "costs" "[J" ∈ wsX7_costOf := by decide +kernel
theorem zd_X7_costOf : yX7_costOf.cls = RX7 ∧ yX7_costOf.cls ≠ "java/lang/invoke/MethodHandle" ∧ yX7_costOf.cls ≠ "java/lang/invoke/VarHandle" ∧ (parseMethodDescriptor yX7_costOf.desc).map (fun d => d.parameters.length) = some 1 := by decide +kernel
set_option maxHeartbeats 4000000 in
set_option maxRecDepth 100000 in
theorem zc_X7_costOf (N : Nat) (l : Launch) (D : va_G) (k : Nat → ClassId) {a : Nat → Nat} (S : zz_St) (p1 : Int32)  (v : Int64) (u : zz_St) (h : zf_X7_costOf N S p1 = some (v, u)) : zz_ML l yX7_costOf wsX7_costOf ({ frames := 1, cells := 0, slots := 0, locals := 21 } : Room) D k (zz_wM a k) [.ref (a 0), .int p1] S (v, u) := by
  refine zz_metL (cc := cX7_costOf) (nL := 2) (by decide) rfl (Nat.le_of_ble_eq_true rfl) ?_
  intro X C hret
  have C : zz_ok X cX7_costOf RX7 wsX7_costOf k 2 ({ frames := 1, cells := 0, slots := 0, locals := 21 } : Room) := C
  unfold zf_X7_costOf at h
  show zz_ww X (0, 0) (zz_wM a k S) 0 [(0, .ref (a 0)), (1, .int p1)] []
  refine zr_aln C 0 dX7_costOf_0 rfl rfl rfl ?_
  refine zr_aln C 0 dX7_costOf_1 rfl rfl rfl ?_
  refine zr_iln C 1 dX7_costOf_2 rfl rfl rfl ?_
  refine zr_cVir (wf := (zz_wM a k)) (st := [.ref (a 0)]) C (fun l D v hv => zc_X7_isNet N l D k (a := a) S p1 v hv) gX7_costOf_X7_isNet rfl zd_X7_isNet ⟨by decide, by decide⟩ ⟨by decide, by decide⟩ rfl ⟨0, 7, _, _, _, zk_M0, rfl⟩ (Nat.le_of_ble_eq_true rfl) rfl dX7_costOf_3 rfl rfl h (fun x1 _ h => ?_)
  refine zz_jn1_W h (fun (v2 : Int32) => zz_ww X (0, 0) (zz_wM a k S) 14 [(0, .ref (a 0)), (1, .int p1)] [.int v2, .ref (a 0)]) ?_ ?_
  · intro v2 h
    refine zp_X7_0 C zi_X7_costOf_X7 zm_X7_costOf_80 dX7_costOf_14 rfl h (fun S5 h => ?_)
    refine zr_aln C 0 dX7_costOf_17 rfl rfl rfl ?_
    refine zg_X7_0 C zi_X7_costOf_X7 zm_X7_costOf_80 dX7_costOf_18 rfl ?_
    refine zz_jn1_W h (fun (v6 : Int64) => zz_ww X (0, 0) (zz_wM a k S5) 49 [] [.long v6]) ?_ ?_
    · intro v6 h
      exact hret v6 S5 49 _ (0, 0) (by decide) (by decide) dX7_costOf_49 h
    intro j7 hj8 h
    refine zr_if_eq (tgt := 28) C dX7_costOf_21 (by decide) rfl h (fun h => ?_) (fun h => ?_)
    · refine zr_aln C 0 dX7_costOf_28 rfl rfl rfl ?_
      refine zg_X7_15 C zi_X7_costOf_X7 zm_X7_costOf_39 dX7_costOf_29 rfl ?_
      refine zr_iln C 1 dX7_costOf_32 rfl rfl rfl ?_
      refine zl_M10 C dX7_costOf_33 rfl h (fun h => ?_)
      refine zr_if_eq (tgt := 46) C dX7_costOf_34 (by decide) rfl h (fun h => ?_) (fun h => ?_)
      · refine zr_ldc2 (v := (-1 : Int64)) C dX7_costOf_46 zm_X7_costOf_c116 rfl ?_
        refine zr_sub [] rfl ?_
        exact hj8 ((-1 : Int64)) h
      · refine zr_aln C 0 dX7_costOf_37 rfl rfl rfl ?_
        refine zg_X7_18 C zi_X7_costOf_X7 zm_X7_costOf_48 dX7_costOf_38 rfl ?_
        refine zr_iln C 1 dX7_costOf_41 rfl rfl rfl ?_
        refine zl_M13 C dX7_costOf_42 rfl h (fun h => ?_)
        refine zr_goto (tgt := 49) C dX7_costOf_43 (by decide) ?_
        refine zr_sub [] rfl ?_
        exact hj8 (zz_gA S5 13 p1.toNatClampNeg) h
    · refine zr_lc (v := 0) C dX7_costOf_24 (by decide) rfl ?_
      refine zr_goto (tgt := 49) C dX7_costOf_25 (by decide) ?_
      refine zr_sub [] rfl ?_
      exact hj8 ((0 : Int64)) h
  intro j3 hj4 h
  refine zr_if_eq (tgt := 13) C dX7_costOf_6 (by decide) rfl h (fun h => ?_) (fun h => ?_)
  · refine zr_ic (v := (1 : Int32)) C dX7_costOf_13 (by decide) rfl ?_
    exact hj4 ((1 : Int32)) h
  · refine zr_ic (v := (0 : Int32)) C dX7_costOf_9 (by decide) rfl ?_
    refine zr_goto (tgt := 14) C dX7_costOf_10 (by decide) ?_
    exact hj4 ((0 : Int32)) h

def zf_X7_ripped (N : Nat) (S : zz_St) (p1 : Int32) : Option (Int32 × zz_St) := zz_b1 (zf_X7_isNet N S p1) (fun x1 => zz_jn1 (fun (v2 : Int32) => zz_let (zz_si S 0 v2) (fun S5 => zz_jn1 (fun (v6 : Int32) => some (v6, S5)) (fun j7 => if (zz_gi S5 0) = 0 then (zz_gd (zz_in p1 12) (j7 (zz_ga S5 14 p1.toNatClampNeg))) else (j7 ((0 : Int32)))))) (fun j3 => if x1 = 0 then (j3 ((1 : Int32))) else (j3 ((0 : Int32)))))
theorem zi_X7_ripped_X7 : ∀ w ∈ wsX70, w ∈ wsX7_ripped := by decide +kernel
theorem zm_X7_ripped_80 : Cond.fieldLink RX7 80 "GridRipUpModel" "thrown" "I" ∈ wsX7_ripped := by decide +kernel
theorem zm_X7_ripped_51 : Cond.fieldLink RX7 51 "GridRipUpModel" "rips" "[I" ∈ wsX7_ripped := by decide +kernel
theorem zd_X7_ripped : yX7_ripped.cls = RX7 ∧ yX7_ripped.cls ≠ "java/lang/invoke/MethodHandle" ∧ yX7_ripped.cls ≠ "java/lang/invoke/VarHandle" ∧ (parseMethodDescriptor yX7_ripped.desc).map (fun d => d.parameters.length) = some 1 := by decide +kernel
set_option maxHeartbeats 4000000 in
set_option maxRecDepth 100000 in
theorem zc_X7_ripped (N : Nat) (l : Launch) (D : va_G) (k : Nat → ClassId) {a : Nat → Nat} (S : zz_St) (p1 : Int32)  (v : Int32) (u : zz_St) (h : zf_X7_ripped N S p1 = some (v, u)) : zz_MI l yX7_ripped wsX7_ripped ({ frames := 1, cells := 0, slots := 0, locals := 21 } : Room) D k (zz_wM a k) [.ref (a 0), .int p1] S (v, u) := by
  refine zz_metI (cc := cX7_ripped) (nL := 2) (ty := .int) (by decide) rfl (Nat.le_of_ble_eq_true rfl) ?_
  intro X C hret
  have C : zz_ok X cX7_ripped RX7 wsX7_ripped k 2 ({ frames := 1, cells := 0, slots := 0, locals := 21 } : Room) := C
  unfold zf_X7_ripped at h
  show zz_ww X (0, 0) (zz_wM a k S) 0 [(0, .ref (a 0)), (1, .int p1)] []
  refine zr_aln C 0 dX7_ripped_0 rfl rfl rfl ?_
  refine zr_aln C 0 dX7_ripped_1 rfl rfl rfl ?_
  refine zr_iln C 1 dX7_ripped_2 rfl rfl rfl ?_
  refine zr_cVir (wf := (zz_wM a k)) (st := [.ref (a 0)]) C (fun l D v hv => zc_X7_isNet N l D k (a := a) S p1 v hv) gX7_ripped_X7_isNet rfl zd_X7_isNet ⟨by decide, by decide⟩ ⟨by decide, by decide⟩ rfl ⟨0, 7, _, _, _, zk_M0, rfl⟩ (Nat.le_of_ble_eq_true rfl) rfl dX7_ripped_3 rfl rfl h (fun x1 _ h => ?_)
  refine zz_jn1_W h (fun (v2 : Int32) => zz_ww X (0, 0) (zz_wM a k S) 14 [(0, .ref (a 0)), (1, .int p1)] [.int v2, .ref (a 0)]) ?_ ?_
  · intro v2 h
    refine zp_X7_0 C zi_X7_ripped_X7 zm_X7_ripped_80 dX7_ripped_14 rfl h (fun S5 h => ?_)
    refine zr_aln C 0 dX7_ripped_17 rfl rfl rfl ?_
    refine zg_X7_0 C zi_X7_ripped_X7 zm_X7_ripped_80 dX7_ripped_18 rfl ?_
    refine zz_jn1_W h (fun (v6 : Int32) => zz_ww X (0, 0) (zz_wM a k S5) 34 [] [.int v6]) ?_ ?_
    · intro v6 h
      exact hret v6 S5 34 _ (0, 0) (by decide) (by decide) dX7_ripped_34 rfl h
    intro j7 hj8 h
    refine zr_if_ne (tgt := 33) C dX7_ripped_21 (by decide) rfl h (fun h => ?_) (fun h => ?_)
    · refine zr_ic (v := (0 : Int32)) C dX7_ripped_33 (by decide) rfl ?_
      refine zr_sub [] rfl ?_
      exact hj8 ((0 : Int32)) h
    · refine zr_aln C 0 dX7_ripped_24 rfl rfl rfl ?_
      refine zg_X7_19 C zi_X7_ripped_X7 zm_X7_ripped_51 dX7_ripped_25 rfl ?_
      refine zr_iln C 1 dX7_ripped_28 rfl rfl rfl ?_
      refine zl_M14 C dX7_ripped_29 rfl h (fun h => ?_)
      refine zr_goto (tgt := 34) C dX7_ripped_30 (by decide) ?_
      refine zr_sub [] rfl ?_
      exact hj8 (zz_ga S5 14 p1.toNatClampNeg) h
  intro j3 hj4 h
  refine zr_if_eq (tgt := 13) C dX7_ripped_6 (by decide) rfl h (fun h => ?_) (fun h => ?_)
  · refine zr_ic (v := (1 : Int32)) C dX7_ripped_13 (by decide) rfl ?_
    exact hj4 ((1 : Int32)) h
  · refine zr_ic (v := (0 : Int32)) C dX7_ripped_9 (by decide) rfl ?_
    refine zr_goto (tgt := 14) C dX7_ripped_10 (by decide) ?_
    exact hj4 ((0 : Int32)) h

def zf_X7_history (N : Nat) (S : zz_St) (p1 : Int32) (p2 : Int32) (p3 : Int32) : Option (Int64 × zz_St) := zz_b1 (zf_X7_cell N S p1 p2 p3) (fun x1 => zz_let x1 (fun x2 => zz_jn1 (fun (v3 : Int32) => zz_let (zz_si S 0 v3) (fun S6 => zz_jn1 (fun (v7 : Int64) => some (v7, S6)) (fun j8 => if (zz_gi S6 0) = 0 then (zz_gd (zz_in x2 1024) (j8 (zz_gA S6 6 x2.toNatClampNeg))) else (j8 ((0 : Int64)))))) (fun j4 => if x2 = ((-1 : Int32)) then (j4 ((1 : Int32))) else (j4 ((0 : Int32))))))
theorem zi_X7_history_X7 : ∀ w ∈ wsX70, w ∈ wsX7_history := by decide +kernel
theorem zm_X7_history_80 : Cond.fieldLink RX7 80 "GridRipUpModel" "thrown" "I" ∈ wsX7_history := by decide +kernel
theorem zm_X7_history_26 : Cond.fieldLink RX7 26 "GridRipUpModel" "history" "[J" ∈ wsX7_history := by decide +kernel
theorem zd_X7_history : yX7_history.cls = RX7 ∧ yX7_history.cls ≠ "java/lang/invoke/MethodHandle" ∧ yX7_history.cls ≠ "java/lang/invoke/VarHandle" ∧ (parseMethodDescriptor yX7_history.desc).map (fun d => d.parameters.length) = some 3 := by decide +kernel
set_option maxHeartbeats 4000000 in
set_option maxRecDepth 100000 in
theorem zc_X7_history (N : Nat) (l : Launch) (D : va_G) (k : Nat → ClassId) {a : Nat → Nat} (S : zz_St) (p1 : Int32) (p2 : Int32) (p3 : Int32)  (v : Int64) (u : zz_St) (h : zf_X7_history N S p1 p2 p3 = some (v, u)) : zz_ML l yX7_history wsX7_history ({ frames := 1, cells := 0, slots := 0, locals := 24 } : Room) D k (zz_wM a k) [.ref (a 0), .int p1, .int p2, .int p3] S (v, u) := by
  refine zz_metL (cc := cX7_history) (nL := 5) (by decide) rfl (Nat.le_of_ble_eq_true rfl) ?_
  intro X C hret
  have C : zz_ok X cX7_history RX7 wsX7_history k 5 ({ frames := 1, cells := 0, slots := 0, locals := 24 } : Room) := C
  unfold zf_X7_history at h
  show zz_ww X (0, 0) (zz_wM a k S) 0 [(0, .ref (a 0)), (1, .int p1), (2, .int p2), (3, .int p3)] []
  refine zr_aln C 0 dX7_history_0 rfl rfl rfl ?_
  refine zr_iln C 1 dX7_history_1 rfl rfl rfl ?_
  refine zr_iln C 2 dX7_history_2 rfl rfl rfl ?_
  refine zr_iln C 3 dX7_history_3 rfl rfl rfl ?_
  refine zr_cVir (wf := (zz_wM a k)) (st := []) C (fun l D v hv => zc_X7_cell N l D k (a := a) S p1 p2 p3 v hv) gX7_history_X7_cell rfl zd_X7_cell ⟨by decide, by decide⟩ ⟨by decide, by decide⟩ rfl ⟨0, 7, _, _, _, zk_M0, rfl⟩ (Nat.le_of_ble_eq_true rfl) rfl dX7_history_4 rfl rfl h (fun x1 _ h => ?_)
  refine zr_is C [1, 2, 3, 4, 0] dX7_history_7 rfl (by decide) (fun x2 => [(0, .ref (a 0)), (1, .int p1), (2, .int p2), (3, .int p3), (4, .int x2)]) h (fun _ => rfl) (fun x2 h => ?_)
  refine zr_aln C 0 dX7_history_9 rfl rfl rfl ?_
  refine zr_il C 4 dX7_history_10 rfl rfl ?_
  refine zr_ic (v := (-1 : Int32)) C dX7_history_12 (by decide) rfl ?_
  refine zz_jn1_W h (fun (v3 : Int32) => zz_ww X (0, 0) (zz_wM a k S) 21 [(0, .ref (a 0)), (4, .int x2)] [.int v3, .ref (a 0)]) ?_ ?_
  · intro v3 h
    refine zp_X7_0 C zi_X7_history_X7 zm_X7_history_80 dX7_history_21 rfl h (fun S6 h => ?_)
    refine zr_aln C 0 dX7_history_24 rfl rfl rfl ?_
    refine zg_X7_0 C zi_X7_history_X7 zm_X7_history_80 dX7_history_25 rfl ?_
    refine zz_jn1_W h (fun (v7 : Int64) => zz_ww X (0, 0) (zz_wM a k S6) 42 [] [.long v7]) ?_ ?_
    · intro v7 h
      exact hret v7 S6 42 _ (0, 0) (by decide) (by decide) dX7_history_42 h
    intro j8 hj9 h
    refine zr_if_ne (tgt := 41) C dX7_history_28 (by decide) rfl h (fun h => ?_) (fun h => ?_)
    · refine zr_lc (v := 0) C dX7_history_41 (by decide) rfl ?_
      refine zr_sub [] rfl ?_
      exact hj9 ((0 : Int64)) h
    · refine zr_aln C 0 dX7_history_31 rfl rfl rfl ?_
      refine zg_X7_11 C zi_X7_history_X7 zm_X7_history_26 dX7_history_32 rfl ?_
      refine zr_il C 1 dX7_history_35 rfl rfl ?_
      refine zl_M6 C dX7_history_37 rfl h (fun h => ?_)
      refine zr_goto (tgt := 42) C dX7_history_38 (by decide) ?_
      refine zr_sub [] rfl ?_
      exact hj9 (zz_gA S6 6 x2.toNatClampNeg) h
  intro j4 hj5 h
  refine zr_icmp_ne (tgt := 20) C dX7_history_13 (by decide) rfl h (fun h => ?_) (fun h => ?_)
  · refine zr_ic (v := (0 : Int32)) C dX7_history_20 (by decide) rfl ?_
    refine zr_sub [0, 4] rfl ?_
    exact hj5 ((0 : Int32)) h
  · refine zr_ic (v := (1 : Int32)) C dX7_history_16 (by decide) rfl ?_
    refine zr_goto (tgt := 21) C dX7_history_17 (by decide) ?_
    refine zr_sub [0, 4] rfl ?_
    exact hj5 ((1 : Int32)) h

def zf_X7_open (N : Nat) (S : zz_St) (p1 : Int32) : Option (Int32 × zz_St) := zz_let (zz_si S 0 ((0 : Int32))) (fun S1 => zz_let p1 (fun x2 => zz_let ((0 : Int32)) (fun x3 => zz_fix2 (fun rc6 (v4 : Int32) (v5 : Int32) => zz_jn1 (fun (u8 : Unit) => some ((-1 : Int32), S1)) (fun j9 => if (zz_gi S1 4) ≤ v5 then (j9 ()) else (if p1 < 0 then (j9 ()) else (zz_b1 (zf_X7_isOpen N S1 v5) (fun x11 => zz_jn1 (fun (v12 : Int32) => zz_let (v5 + (1 : Int32)) (fun x15 => rc6 v12 x15)) (fun j13 => if x11 = 0 then (j13 v4) else (if v4 = 0 then (some (v5, S1)) else (zz_let (v4 + (-1 : Int32)) (fun x16 => j13 x16))))))))) N x2 x3)))
theorem zi_X7_open_X7 : ∀ w ∈ wsX70, w ∈ wsX7_open := by decide +kernel
theorem zm_X7_open_80 : Cond.fieldLink RX7 80 "GridRipUpModel" "thrown" "I" ∈ wsX7_open := by decide +kernel
theorem zm_X7_open_94 : Cond.fieldLink RX7 94 "GridRipUpModel" "nets" "I" ∈ wsX7_open := by decide +kernel
theorem zd_X7_open : yX7_open.cls = RX7 ∧ yX7_open.cls ≠ "java/lang/invoke/MethodHandle" ∧ yX7_open.cls ≠ "java/lang/invoke/VarHandle" ∧ (parseMethodDescriptor yX7_open.desc).map (fun d => d.parameters.length) = some 1 := by decide +kernel
set_option maxHeartbeats 4000000 in
set_option maxRecDepth 100000 in
theorem zc_X7_open (N : Nat) (l : Launch) (D : va_G) (k : Nat → ClassId) {a : Nat → Nat} (S : zz_St) (p1 : Int32)  (v : Int32) (u : zz_St) (h : zf_X7_open N S p1 = some (v, u)) : zz_MI l yX7_open wsX7_open ({ frames := 1, cells := 0, slots := 0, locals := 21 } : Room) D k (zz_wM a k) [.ref (a 0), .int p1] S (v, u) := by
  refine zz_metI (cc := cX7_open) (nL := 4) (ty := .int) (by decide) rfl (Nat.le_of_ble_eq_true rfl) ?_
  intro X C hret
  have C : zz_ok X cX7_open RX7 wsX7_open k 4 ({ frames := 1, cells := 0, slots := 0, locals := 21 } : Room) := C
  unfold zf_X7_open at h
  show zz_ww X (0, 0) (zz_wM a k S) 0 [(0, .ref (a 0)), (1, .int p1)] []
  refine zr_aln C 0 dX7_open_0 rfl rfl rfl ?_
  refine zr_ic (v := (0 : Int32)) C dX7_open_1 (by decide) rfl ?_
  refine zp_X7_0 C zi_X7_open_X7 zm_X7_open_80 dX7_open_2 rfl h (fun S1 h => ?_)
  refine zr_iln C 1 dX7_open_5 rfl rfl rfl ?_
  refine zr_isn C [1, 2, 0] dX7_open_6 rfl rfl (by decide) (fun x2 => [(0, .ref (a 0)), (1, .int p1), (2, .int x2)]) h (fun _ => rfl) (fun x2 h => ?_)
  refine zr_ic (v := (0 : Int32)) C dX7_open_7 (by decide) rfl ?_
  refine zr_isn C [1, 2, 3, 0] dX7_open_8 rfl rfl (by decide) (fun x3 => [(0, .ref (a 0)), (1, .int p1), (2, .int x2), (3, .int x3)]) h (fun _ => rfl) (fun x3 h => ?_)
  refine zz_fix2_W (fun (v4 : Int32) (v5 : Int32) => zz_ww X (0, 0) (zz_wM a k S1) 9 [(0, .ref (a 0)), (1, .int p1), (2, .int v4), (3, .int v5)] []) ?_ N x2 x3 h
  intro rc6 hr7 v4 v5 h
  refine zr_iln C 3 dX7_open_9 rfl rfl rfl ?_
  refine zr_aln C 0 dX7_open_10 rfl rfl rfl ?_
  refine zg_X7_5 C zi_X7_open_X7 zm_X7_open_94 dX7_open_11 rfl ?_
  refine zz_jn1_W h (fun (u8 : Unit) => zz_ww X (0, 0) (zz_wM a k S1) 47 [] []) ?_ ?_
  · intro u8 h
    refine zr_ic (v := (-1 : Int32)) C dX7_open_47 (by decide) rfl ?_
    exact hret ((-1 : Int32)) S1 48 _ (0, 0) (by decide) (by decide) dX7_open_48 rfl h
  intro j9 hj10 h
  refine zr_icmp_ge (tgt := 47) C dX7_open_14 (by decide) rfl h (fun h => ?_) (fun h => ?_)
  · refine zr_sub [] rfl ?_
    exact hj10 () h
  · refine zr_iln C 1 dX7_open_17 rfl rfl rfl ?_
    refine zr_if_lt (tgt := 47) C dX7_open_18 (by decide) rfl h (fun h => ?_) (fun h => ?_)
    · refine zr_sub [] rfl ?_
      exact hj10 () h
    · refine zr_aln C 0 dX7_open_21 rfl rfl rfl ?_
      refine zr_iln C 3 dX7_open_22 rfl rfl rfl ?_
      refine zr_cVir (wf := (zz_wM a k)) (st := []) C (fun l D v hv => zc_X7_isOpen N l D k (a := a) S1 v5 v hv) gX7_open_X7_isOpen rfl zd_X7_isOpen ⟨by decide, by decide⟩ ⟨by decide, by decide⟩ rfl ⟨0, 7, _, _, _, zk_M0, rfl⟩ (Nat.le_of_ble_eq_true rfl) rfl dX7_open_23 rfl rfl h (fun x11 _ h => ?_)
      refine zz_jn1_W h (fun (v12 : Int32) => zz_ww X (0, 0) (zz_wM a k S1) 41 [(0, .ref (a 0)), (1, .int p1), (2, .int v12), (3, .int v5)] []) ?_ ?_
      · intro v12 h
        refine zr_iinc (v := (1 : Int32)) C 3 [1, 2, 3, 0] dX7_open_41 rfl (by decide) rfl (by decide) (fun x15 => [(0, .ref (a 0)), (1, .int p1), (2, .int v12), (3, .int x15)]) h (fun _ => rfl) (fun x15 h => ?_)
        refine zr_goto (tgt := 9) C dX7_open_44 (by decide) ?_
        exact hr7 v12 x15 h
      intro j13 hj14 h
      refine zr_if_ne (tgt := 32) C dX7_open_26 (by decide) rfl h (fun h => ?_) (fun h => ?_)
      · refine zr_iln C 2 dX7_open_32 rfl rfl rfl ?_
        refine zr_if_ne (tgt := 38) C dX7_open_33 (by decide) rfl h (fun h => ?_) (fun h => ?_)
        · refine zr_iinc (v := (-1 : Int32)) C 2 [1, 2, 0, 3] dX7_open_38 rfl (by decide) rfl (by decide) (fun x16 => [(0, .ref (a 0)), (1, .int p1), (2, .int x16), (3, .int v5)]) h (fun _ => rfl) (fun x16 h => ?_)
          exact hj14 x16 h
        · refine zr_iln C 3 dX7_open_36 rfl rfl rfl ?_
          exact hret v5 S1 37 _ (0, 0) (by decide) (by decide) dX7_open_37 rfl h
      · refine zr_goto (tgt := 41) C dX7_open_29 (by decide) ?_
        exact hj14 v4 h


def zf_X7_blocking (N : Nat) (S : zz_St) (p1 : Int32) (p2 : Int32) : Option (Int32 × zz_St) := zz_b1 (zf_X7_isNet N S p1) (fun x1 => zz_jn1 (fun (v2 : Int32) => zz_let (zz_si S 0 v2) (fun S5 => if (zz_gi S5 0) = 0 then (zz_let p2 (fun x6 => zz_let ((0 : Int32)) (fun x7 => zz_fix2 (fun rc10 (v8 : Int32) (v9 : Int32) => zz_jn1 (fun (u12 : Unit) => some ((-1 : Int32), S5)) (fun j13 => if (zz_gi S5 4) ≤ v9 then (j13 ()) else (if p2 < 0 then (j13 ()) else (zz_gd (zz_in p1 12) (zz_jn1 (fun (v15 : Int32) => zz_let (v9 + (1 : Int32)) (fun x18 => rc10 v15 x18)) (fun j16 => if (((zz_ga S5 15 p1.toNatClampNeg) >>> (v9 &&& 31)) &&& ((1 : Int32))) = 0 then (j16 v8) else (if v8 = 0 then (some (v9, S5)) else (zz_let (v8 + (-1 : Int32)) (fun x19 => j16 x19))))))))) N x6 x7))) else (some ((0 : Int32), S5)))) (fun j3 => if x1 = 0 then (j3 ((1 : Int32))) else (j3 ((0 : Int32)))))
theorem zi_X7_blocking_X7 : ∀ w ∈ wsX70, w ∈ wsX7_blocking := by decide +kernel
theorem zm_X7_blocking_80 : Cond.fieldLink RX7 80 "GridRipUpModel" "thrown" "I" ∈ wsX7_blocking := by decide +kernel
theorem zm_X7_blocking_94 : Cond.fieldLink RX7 94 "GridRipUpModel" "nets" "I" ∈ wsX7_blocking := by decide +kernel
theorem zm_X7_blocking_54 : Cond.fieldLink RX7 54 "GridRipUpModel" "blocks" "[I" ∈ wsX7_blocking := by decide +kernel
theorem zd_X7_blocking : yX7_blocking.cls = RX7 ∧ yX7_blocking.cls ≠ "java/lang/invoke/MethodHandle" ∧ yX7_blocking.cls ≠ "java/lang/invoke/VarHandle" ∧ (parseMethodDescriptor yX7_blocking.desc).map (fun d => d.parameters.length) = some 2 := by decide +kernel
set_option maxHeartbeats 4000000 in
set_option maxRecDepth 100000 in
theorem zc_X7_blocking (N : Nat) (l : Launch) (D : va_G) (k : Nat → ClassId) {a : Nat → Nat} (S : zz_St) (p1 : Int32) (p2 : Int32)  (v : Int32) (u : zz_St) (h : zf_X7_blocking N S p1 p2 = some (v, u)) : zz_MI l yX7_blocking wsX7_blocking ({ frames := 1, cells := 0, slots := 0, locals := 21 } : Room) D k (zz_wM a k) [.ref (a 0), .int p1, .int p2] S (v, u) := by
  refine zz_metI (cc := cX7_blocking) (nL := 5) (ty := .int) (by decide) rfl (Nat.le_of_ble_eq_true rfl) ?_
  intro X C hret
  have C : zz_ok X cX7_blocking RX7 wsX7_blocking k 5 ({ frames := 1, cells := 0, slots := 0, locals := 21 } : Room) := C
  unfold zf_X7_blocking at h
  show zz_ww X (0, 0) (zz_wM a k S) 0 [(0, .ref (a 0)), (1, .int p1), (2, .int p2)] []
  refine zr_aln C 0 dX7_blocking_0 rfl rfl rfl ?_
  refine zr_aln C 0 dX7_blocking_1 rfl rfl rfl ?_
  refine zr_iln C 1 dX7_blocking_2 rfl rfl rfl ?_
  refine zr_cVir (wf := (zz_wM a k)) (st := [.ref (a 0)]) C (fun l D v hv => zc_X7_isNet N l D k (a := a) S p1 v hv) gX7_blocking_X7_isNet rfl zd_X7_isNet ⟨by decide, by decide⟩ ⟨by decide, by decide⟩ rfl ⟨0, 7, _, _, _, zk_M0, rfl⟩ (Nat.le_of_ble_eq_true rfl) rfl dX7_blocking_3 rfl rfl h (fun x1 _ h => ?_)
  refine zz_jn1_W h (fun (v2 : Int32) => zz_ww X (0, 0) (zz_wM a k S) 14 [(0, .ref (a 0)), (1, .int p1), (2, .int p2)] [.int v2, .ref (a 0)]) ?_ ?_
  · intro v2 h
    refine zp_X7_0 C zi_X7_blocking_X7 zm_X7_blocking_80 dX7_blocking_14 rfl h (fun S5 h => ?_)
    refine zr_aln C 0 dX7_blocking_17 rfl rfl rfl ?_
    refine zg_X7_0 C zi_X7_blocking_X7 zm_X7_blocking_80 dX7_blocking_18 rfl ?_
    refine zr_if_eq (tgt := 26) C dX7_blocking_21 (by decide) rfl h (fun h => ?_) (fun h => ?_)
    · refine zr_iln C 2 dX7_blocking_26 rfl rfl rfl ?_
      refine zr_isn C [1, 2, 3, 0] dX7_blocking_27 rfl rfl (by decide) (fun x6 => [(0, .ref (a 0)), (1, .int p1), (2, .int p2), (3, .int x6)]) h (fun _ => rfl) (fun x6 h => ?_)
      refine zr_ic (v := (0 : Int32)) C dX7_blocking_28 (by decide) rfl ?_
      refine zr_is C [1, 2, 3, 4, 0] dX7_blocking_29 rfl (by decide) (fun x7 => [(0, .ref (a 0)), (1, .int p1), (2, .int p2), (3, .int x6), (4, .int x7)]) h (fun _ => rfl) (fun x7 h => ?_)
      refine zz_fix2_W (fun (v8 : Int32) (v9 : Int32) => zz_ww X (0, 0) (zz_wM a k S5) 31 [(0, .ref (a 0)), (1, .int p1), (2, .int p2), (3, .int v8), (4, .int v9)] []) ?_ N x6 x7 h
      intro rc10 hr11 v8 v9 h
      refine zr_il C 4 dX7_blocking_31 rfl rfl ?_
      refine zr_aln C 0 dX7_blocking_33 rfl rfl rfl ?_
      refine zg_X7_5 C zi_X7_blocking_X7 zm_X7_blocking_94 dX7_blocking_34 rfl ?_
      refine zz_jn1_W h (fun (u12 : Unit) => zz_ww X (0, 0) (zz_wM a k S5) 77 [] []) ?_ ?_
      · intro u12 h
        refine zr_ic (v := (-1 : Int32)) C dX7_blocking_77 (by decide) rfl ?_
        exact hret ((-1 : Int32)) S5 78 _ (0, 0) (by decide) (by decide) dX7_blocking_78 rfl h
      intro j13 hj14 h
      refine zr_icmp_ge (tgt := 77) C dX7_blocking_37 (by decide) rfl h (fun h => ?_) (fun h => ?_)
      · refine zr_sub [] rfl ?_
        exact hj14 () h
      · refine zr_iln C 2 dX7_blocking_40 rfl rfl rfl ?_
        refine zr_if_lt (tgt := 77) C dX7_blocking_41 (by decide) rfl h (fun h => ?_) (fun h => ?_)
        · refine zr_sub [] rfl ?_
          exact hj14 () h
        · refine zr_aln C 0 dX7_blocking_44 rfl rfl rfl ?_
          refine zg_X7_20 C zi_X7_blocking_X7 zm_X7_blocking_54 dX7_blocking_45 rfl ?_
          refine zr_iln C 1 dX7_blocking_48 rfl rfl rfl ?_
          refine zl_M15 C dX7_blocking_49 rfl h (fun h => ?_)
          refine zr_il C 4 dX7_blocking_50 rfl rfl ?_
          refine zr_ishr C dX7_blocking_52 rfl ?_
          refine zr_ic (v := (1 : Int32)) C dX7_blocking_53 (by decide) rfl ?_
          refine zr_iand C dX7_blocking_54 rfl ?_
          refine zz_jn1_W h (fun (v15 : Int32) => zz_ww X (0, 0) (zz_wM a k S5) 71 [(0, .ref (a 0)), (1, .int p1), (2, .int p2), (3, .int v15), (4, .int v9)] []) ?_ ?_
          · intro v15 h
            refine zr_iinc (v := (1 : Int32)) C 4 [1, 2, 3, 4, 0] dX7_blocking_71 rfl (by decide) rfl (by decide) (fun x18 => [(0, .ref (a 0)), (1, .int p1), (2, .int p2), (3, .int v15), (4, .int x18)]) h (fun _ => rfl) (fun x18 h => ?_)
            refine zr_goto (tgt := 31) C dX7_blocking_74 (by decide) ?_
            exact hr11 v15 x18 h
          intro j16 hj17 h
          refine zr_if_ne (tgt := 61) C dX7_blocking_55 (by decide) rfl h (fun h => ?_) (fun h => ?_)
          · refine zr_iln C 3 dX7_blocking_61 rfl rfl rfl ?_
            refine zr_if_ne (tgt := 68) C dX7_blocking_62 (by decide) rfl h (fun h => ?_) (fun h => ?_)
            · refine zr_iinc (v := (-1 : Int32)) C 3 [1, 2, 3, 0, 4] dX7_blocking_68 rfl (by decide) rfl (by decide) (fun x19 => [(0, .ref (a 0)), (1, .int p1), (2, .int p2), (3, .int x19), (4, .int v9)]) h (fun _ => rfl) (fun x19 h => ?_)
              exact hj17 x19 h
            · refine zr_il C 4 dX7_blocking_65 rfl rfl ?_
              exact hret v9 S5 67 _ (0, 0) (by decide) (by decide) dX7_blocking_67 rfl h
          · refine zr_goto (tgt := 71) C dX7_blocking_58 (by decide) ?_
            exact hj17 v8 h
    · refine zr_ic (v := (0 : Int32)) C dX7_blocking_24 (by decide) rfl ?_
      exact hret ((0 : Int32)) S5 25 _ (0, 0) (by decide) (by decide) dX7_blocking_25 rfl h
  intro j3 hj4 h
  refine zr_if_eq (tgt := 13) C dX7_blocking_6 (by decide) rfl h (fun h => ?_) (fun h => ?_)
  · refine zr_ic (v := (1 : Int32)) C dX7_blocking_13 (by decide) rfl ?_
    exact hj4 ((1 : Int32)) h
  · refine zr_ic (v := (0 : Int32)) C dX7_blocking_9 (by decide) rfl ?_
    refine zr_goto (tgt := 14) C dX7_blocking_10 (by decide) ?_
    exact hj4 ((0 : Int32)) h

def zf_X7_joined (N : Nat) (S : zz_St) (p1 : Int32) : Option (Int32 × zz_St) := zz_b1 (zf_X7_isNet N S p1) (fun x1 => zz_jn1 (fun (v2 : Int32) => zz_let (zz_si S 0 v2) (fun S5 => zz_jn1 (fun (v6 : Int32) => zz_gd (zz_bl v6) (some (v6, S5))) (fun j7 => zz_jn1 (fun (u9 : Unit) => j7 ((0 : Int32))) (fun j10 => if (zz_gi S5 0) = 0 then (zz_gd (zz_in p1 12) (if (zz_ga S5 10 p1.toNatClampNeg) = 0 then (j10 ()) else (j7 ((1 : Int32))))) else (j10 ()))))) (fun j3 => if x1 = 0 then (j3 ((1 : Int32))) else (j3 ((0 : Int32)))))
theorem zi_X7_joined_X7 : ∀ w ∈ wsX70, w ∈ wsX7_joined := by decide +kernel
theorem zm_X7_joined_80 : Cond.fieldLink RX7 80 "GridRipUpModel" "thrown" "I" ∈ wsX7_joined := by decide +kernel
theorem zm_X7_joined_39 : Cond.fieldLink RX7 39 "GridRipUpModel" "led" "[Z" ∈ wsX7_joined := by decide +kernel
theorem zd_X7_joined : yX7_joined.cls = RX7 ∧ yX7_joined.cls ≠ "java/lang/invoke/MethodHandle" ∧ yX7_joined.cls ≠ "java/lang/invoke/VarHandle" ∧ (parseMethodDescriptor yX7_joined.desc).map (fun d => d.parameters.length) = some 1 := by decide +kernel
set_option maxHeartbeats 4000000 in
set_option maxRecDepth 100000 in
theorem zc_X7_joined (N : Nat) (l : Launch) (D : va_G) (k : Nat → ClassId) {a : Nat → Nat} (S : zz_St) (p1 : Int32)  (v : Int32) (u : zz_St) (h : zf_X7_joined N S p1 = some (v, u)) : zz_MI l yX7_joined wsX7_joined ({ frames := 1, cells := 0, slots := 0, locals := 21 } : Room) D k (zz_wM a k) [.ref (a 0), .int p1] S (v, u) := by
  refine zz_metI (cc := cX7_joined) (nL := 2) (ty := .boolean) (by decide) rfl (Nat.le_of_ble_eq_true rfl) ?_
  intro X C hret
  have C : zz_ok X cX7_joined RX7 wsX7_joined k 2 ({ frames := 1, cells := 0, slots := 0, locals := 21 } : Room) := C
  unfold zf_X7_joined at h
  show zz_ww X (0, 0) (zz_wM a k S) 0 [(0, .ref (a 0)), (1, .int p1)] []
  refine zr_aln C 0 dX7_joined_0 rfl rfl rfl ?_
  refine zr_aln C 0 dX7_joined_1 rfl rfl rfl ?_
  refine zr_iln C 1 dX7_joined_2 rfl rfl rfl ?_
  refine zr_cVir (wf := (zz_wM a k)) (st := [.ref (a 0)]) C (fun l D v hv => zc_X7_isNet N l D k (a := a) S p1 v hv) gX7_joined_X7_isNet rfl zd_X7_isNet ⟨by decide, by decide⟩ ⟨by decide, by decide⟩ rfl ⟨0, 7, _, _, _, zk_M0, rfl⟩ (Nat.le_of_ble_eq_true rfl) rfl dX7_joined_3 rfl rfl h (fun x1 _ h => ?_)
  refine zz_jn1_W h (fun (v2 : Int32) => zz_ww X (0, 0) (zz_wM a k S) 14 [(0, .ref (a 0)), (1, .int p1)] [.int v2, .ref (a 0)]) ?_ ?_
  · intro v2 h
    refine zp_X7_0 C zi_X7_joined_X7 zm_X7_joined_80 dX7_joined_14 rfl h (fun S5 h => ?_)
    refine zr_aln C 0 dX7_joined_17 rfl rfl rfl ?_
    refine zg_X7_0 C zi_X7_joined_X7 zm_X7_joined_80 dX7_joined_18 rfl ?_
    refine zz_jn1_W h (fun (v6 : Int32) => zz_ww X (0, 0) (zz_wM a k S5) 38 [] [.int v6]) ?_ ?_
    · intro v6 h
      obtain ⟨hb, h⟩ := zz_gd_some h
      exact hret v6 S5 38 _ (0, 0) (by decide) (by decide) dX7_joined_38 (zz_bl_nar hb) h
    intro j7 hj8 h
    refine zz_jn1_W h (fun (u9 : Unit) => zz_ww X (0, 0) (zz_wM a k S5) 37 [] []) ?_ ?_
    · intro u9 h
      refine zr_ic (v := (0 : Int32)) C dX7_joined_37 (by decide) rfl ?_
      exact hj8 ((0 : Int32)) h
    intro j10 hj11 h
    refine zr_if_ne (tgt := 37) C dX7_joined_21 (by decide) rfl h (fun h => ?_) (fun h => ?_)
    · refine zr_sub [] rfl ?_
      exact hj11 () h
    · refine zr_aln C 0 dX7_joined_24 rfl rfl rfl ?_
      refine zg_X7_15 C zi_X7_joined_X7 zm_X7_joined_39 dX7_joined_25 rfl ?_
      refine zr_iln C 1 dX7_joined_28 rfl rfl rfl ?_
      refine zl_M10 C dX7_joined_29 rfl h (fun h => ?_)
      refine zr_if_eq (tgt := 37) C dX7_joined_30 (by decide) rfl h (fun h => ?_) (fun h => ?_)
      · refine zr_sub [] rfl ?_
        exact hj11 () h
      · refine zr_ic (v := (1 : Int32)) C dX7_joined_33 (by decide) rfl ?_
        refine zr_goto (tgt := 38) C dX7_joined_34 (by decide) ?_
        refine zr_sub [] rfl ?_
        exact hj8 ((1 : Int32)) h
  intro j3 hj4 h
  refine zr_if_eq (tgt := 13) C dX7_joined_6 (by decide) rfl h (fun h => ?_) (fun h => ?_)
  · refine zr_ic (v := (1 : Int32)) C dX7_joined_13 (by decide) rfl ?_
    exact hj4 ((1 : Int32)) h
  · refine zr_ic (v := (0 : Int32)) C dX7_joined_9 (by decide) rfl ?_
    refine zr_goto (tgt := 14) C dX7_joined_10 (by decide) ?_
    exact hj4 ((0 : Int32)) h

def zf_X7_isInBlock (N : Nat) (S : zz_St) (p1 : Int32) (p2 : Int32) : Option Int32 := zz_gd (!(((4 : Int32)) == 0)) (zz_let (((zz_gi S 1) + ((3 : Int32))) / ((4 : Int32))) (fun x1 => zz_b1 (zf_X7_rowOf N S p1) (fun x2 => zz_gd (!(((4 : Int32)) == 0)) (zz_gd (!((zz_gi S 1) == 0)) (zz_gd (!(((4 : Int32)) == 0)) (zz_jn1 (fun (v3 : Int32) => zz_gd (zz_bl v3) (some (v3))) (fun j4 => if (((x2 / ((4 : Int32))) * x1) + ((p1 - p1 / (zz_gi S 1) * (zz_gi S 1)) / ((4 : Int32)))) = p2 then (j4 ((1 : Int32))) else (j4 ((0 : Int32))))))))))
theorem zi_X7_isInBlock_X7 : ∀ w ∈ wsX70, w ∈ wsX7_isInBlock := by decide +kernel
theorem zm_X7_isInBlock_66 : Cond.fieldLink RX7 66 "GridRipUpModel" "wide" "I" ∈ wsX7_isInBlock := by decide +kernel
theorem zd_X7_isInBlock : yX7_isInBlock.cls = RX7 ∧ yX7_isInBlock.cls ≠ "java/lang/invoke/MethodHandle" ∧ yX7_isInBlock.cls ≠ "java/lang/invoke/VarHandle" ∧ (parseMethodDescriptor yX7_isInBlock.desc).map (fun d => d.parameters.length) = some 2 := by decide +kernel
set_option maxHeartbeats 4000000 in
set_option maxRecDepth 100000 in
theorem zc_X7_isInBlock (N : Nat) (l : Launch) (D : va_G) (k : Nat → ClassId) {a : Nat → Nat} (S : zz_St) (p1 : Int32) (p2 : Int32)  (v : Int32) (h : zf_X7_isInBlock N S p1 p2 = some v) : zz_MI l yX7_isInBlock wsX7_isInBlock ({ frames := 1, cells := 0, slots := 0, locals := 21 } : Room) D k (zz_wM a k) [.ref (a 0), .int p1, .int p2] S (v, S) := by
  refine zz_metI (cc := cX7_isInBlock) (nL := 4) (ty := .boolean) (by decide) rfl (Nat.le_of_ble_eq_true rfl) ?_
  intro X C hret
  have C : zz_ok X cX7_isInBlock RX7 wsX7_isInBlock k 4 ({ frames := 1, cells := 0, slots := 0, locals := 21 } : Room) := C
  unfold zf_X7_isInBlock at h
  show zz_ww X (0, 0) (zz_wM a k S) 0 [(0, .ref (a 0)), (1, .int p1), (2, .int p2)] []
  refine zr_aln C 0 dX7_isInBlock_0 rfl rfl rfl ?_
  refine zg_X7_1 C zi_X7_isInBlock_X7 zm_X7_isInBlock_66 dX7_isInBlock_1 rfl ?_
  refine zr_ic (v := (3 : Int32)) C dX7_isInBlock_4 (by decide) rfl ?_
  refine zr_iadd C dX7_isInBlock_5 rfl ?_
  refine zr_ic (v := (4 : Int32)) C dX7_isInBlock_6 (by decide) rfl ?_
  refine zr_idiv C dX7_isInBlock_7 rfl h (fun h => ?_)
  refine zr_isn C [1, 2, 3, 0] dX7_isInBlock_8 rfl rfl (by decide) (fun x1 => [(0, .ref (a 0)), (1, .int p1), (2, .int p2), (3, .int x1)]) h (fun _ => rfl) (fun x1 h => ?_)
  refine zr_aln C 0 dX7_isInBlock_9 rfl rfl rfl ?_
  refine zr_iln C 1 dX7_isInBlock_10 rfl rfl rfl ?_
  refine zr_cVir (wf := (zz_wM a k)) (st := []) C (fun l D v hv => zc_X7_rowOf N l D k (a := a) S p1 v hv) gX7_isInBlock_X7_rowOf rfl zd_X7_rowOf ⟨by decide, by decide⟩ ⟨by decide, by decide⟩ rfl ⟨0, 7, _, _, _, zk_M0, rfl⟩ (Nat.le_of_ble_eq_true rfl) rfl dX7_isInBlock_11 rfl rfl h (fun x2 _ h => ?_)
  refine zr_ic (v := (4 : Int32)) C dX7_isInBlock_14 (by decide) rfl ?_
  refine zr_idiv C dX7_isInBlock_15 rfl h (fun h => ?_)
  refine zr_iln C 3 dX7_isInBlock_16 rfl rfl rfl ?_
  refine zr_imul C dX7_isInBlock_17 rfl ?_
  refine zr_iln C 1 dX7_isInBlock_18 rfl rfl rfl ?_
  refine zr_aln C 0 dX7_isInBlock_19 rfl rfl rfl ?_
  refine zg_X7_1 C zi_X7_isInBlock_X7 zm_X7_isInBlock_66 dX7_isInBlock_20 rfl ?_
  refine zr_irem C dX7_isInBlock_23 rfl h (fun h => ?_)
  refine zr_ic (v := (4 : Int32)) C dX7_isInBlock_24 (by decide) rfl ?_
  refine zr_idiv C dX7_isInBlock_25 rfl h (fun h => ?_)
  refine zr_iadd C dX7_isInBlock_26 rfl ?_
  refine zr_iln C 2 dX7_isInBlock_27 rfl rfl rfl ?_
  refine zz_jn1_W h (fun (v3 : Int32) => zz_ww X (0, 0) (zz_wM a k S) 36 [] [.int v3]) ?_ ?_
  · intro v3 h
    obtain ⟨hb, h⟩ := zz_gd_some h
    exact hret v3 S 36 _ (0, 0) (by decide) (by decide) dX7_isInBlock_36 (zz_bl_nar hb) (zz_ro h)
  intro j4 hj5 h
  refine zr_icmp_ne (tgt := 35) C dX7_isInBlock_28 (by decide) rfl h (fun h => ?_) (fun h => ?_)
  · refine zr_ic (v := (0 : Int32)) C dX7_isInBlock_35 (by decide) rfl ?_
    refine zr_sub [] rfl ?_
    exact hj5 ((0 : Int32)) h
  · refine zr_ic (v := (1 : Int32)) C dX7_isInBlock_31 (by decide) rfl ?_
    refine zr_goto (tgt := 36) C dX7_isInBlock_32 (by decide) ?_
    refine zr_sub [] rfl ?_
    exact hj5 ((1 : Int32)) h

def zf_X7_corridor (N : Nat) (S : zz_St) (p1 : Int32) (p2 : Int32) : Option (Int32 × zz_St) := zz_b1 (zf_X7_isNet N S p1) (fun x1 => zz_jn1 (fun (v2 : Int32) => zz_let (zz_si S 0 v2) (fun S5 => zz_jn1 (fun (u6 : Unit) => zz_jn1 (fun (v9 : Int32) => some (v9, S5)) (fun j10 => if (zz_gi S5 0) = 0 then (j10 ((-1 : Int32))) else (j10 ((0 : Int32))))) (fun j7 => if (zz_gi S5 0) = 0 then (if 0 ≤ p2 then (zz_let p2 (fun x12 => zz_let ((0 : Int32)) (fun x13 => zz_fix2 (fun rc16 (v14 : Int32) (v15 : Int32) => if ((16 : Int32)) ≤ v15 then (some ((-1 : Int32), S5)) else (zz_let ((0 : Int32)) (fun x18 => zz_let ((0 : Int32)) (fun x19 => zz_fix2 (fun rc22 (v20 : Int32) (v21 : Int32) => if (((zz_gi S5 1) * (zz_gi S5 2)) * (zz_gi S5 3)) ≤ v21 then (zz_jn1 (fun (u24 : Unit) => zz_jn1 (fun (v27 : Int32) => zz_let (v14 - v27) (fun x30 => zz_let (v15 + (1 : Int32)) (fun x31 => rc16 x30 x31))) (fun j28 => if v20 = 0 then (j28 ((0 : Int32))) else (j28 ((1 : Int32))))) (fun j25 => if v20 = 0 then (j25 ()) else (if v14 = 0 then (some (v15, S5)) else (j25 ())))) else (zz_jn1 (fun (v32 : Int32) => zz_let v32 (fun x35 => zz_let (v21 + (1 : Int32)) (fun x36 => rc22 x35 x36))) (fun j33 => zz_jn1 (fun (u37 : Unit) => j33 ((1 : Int32))) (fun j38 => if v20 = 0 then (zz_gd (zz_in v21 1024) (zz_jn1 (fun (u40 : Unit) => j33 ((0 : Int32))) (fun j41 => if (zz_ga S5 3 v21.toNatClampNeg) = p1 then (zz_b1 (zf_X7_isInBlock N S5 v21 v15) (fun x43 => if x43 = 0 then (j41 ()) else (j38 ()))) else (j41 ())))) else (j38 ()))))) N x18 x19)))) N x12 x13))) else (j7 ())) else (j7 ())))) (fun j3 => if x1 = 0 then (j3 ((1 : Int32))) else (j3 ((0 : Int32)))))
theorem zi_X7_corridor_X7 : ∀ w ∈ wsX70, w ∈ wsX7_corridor := by decide +kernel
theorem zm_X7_corridor_80 : Cond.fieldLink RX7 80 "GridRipUpModel" "thrown" "I" ∈ wsX7_corridor := by decide +kernel
theorem zm_X7_corridor_66 : Cond.fieldLink RX7 66 "GridRipUpModel" "wide" "I" ∈ wsX7_corridor := by decide +kernel
theorem zm_X7_corridor_70 : Cond.fieldLink RX7 70 "GridRipUpModel" "high" "I" ∈ wsX7_corridor := by decide +kernel
theorem zm_X7_corridor_73 : Cond.fieldLink RX7 73 "GridRipUpModel" "deep" "I" ∈ wsX7_corridor := by decide +kernel
theorem zm_X7_corridor_16 : Cond.fieldLink RX7 16 "GridRipUpModel" "holder" "[I" ∈ wsX7_corridor := by decide +kernel
theorem zd_X7_corridor : yX7_corridor.cls = RX7 ∧ yX7_corridor.cls ≠ "java/lang/invoke/MethodHandle" ∧ yX7_corridor.cls ≠ "java/lang/invoke/VarHandle" ∧ (parseMethodDescriptor yX7_corridor.desc).map (fun d => d.parameters.length) = some 2 := by decide +kernel
set_option maxHeartbeats 4000000 in
set_option maxRecDepth 100000 in
theorem zc_X7_corridor (N : Nat) (l : Launch) (D : va_G) (k : Nat → ClassId) {a : Nat → Nat} (S : zz_St) (p1 : Int32) (p2 : Int32)  (v : Int32) (u : zz_St) (h : zf_X7_corridor N S p1 p2 = some (v, u)) : zz_MI l yX7_corridor wsX7_corridor ({ frames := 2, cells := 0, slots := 0, locals := 44 } : Room) D k (zz_wM a k) [.ref (a 0), .int p1, .int p2] S (v, u) := by
  refine zz_metI (cc := cX7_corridor) (nL := 7) (ty := .int) (by decide) rfl (Nat.le_of_ble_eq_true rfl) ?_
  intro X C hret
  have C : zz_ok X cX7_corridor RX7 wsX7_corridor k 7 ({ frames := 2, cells := 0, slots := 0, locals := 44 } : Room) := C
  unfold zf_X7_corridor at h
  show zz_ww X (0, 0) (zz_wM a k S) 0 [(0, .ref (a 0)), (1, .int p1), (2, .int p2)] []
  refine zr_aln C 0 dX7_corridor_0 rfl rfl rfl ?_
  refine zr_aln C 0 dX7_corridor_1 rfl rfl rfl ?_
  refine zr_iln C 1 dX7_corridor_2 rfl rfl rfl ?_
  refine zr_cVir (wf := (zz_wM a k)) (st := [.ref (a 0)]) C (fun l D v hv => zc_X7_isNet N l D k (a := a) S p1 v hv) gX7_corridor_X7_isNet rfl zd_X7_isNet ⟨by decide, by decide⟩ ⟨by decide, by decide⟩ rfl ⟨0, 7, _, _, _, zk_M0, rfl⟩ (Nat.le_of_ble_eq_true rfl) rfl dX7_corridor_3 rfl rfl h (fun x1 _ h => ?_)
  refine zz_jn1_W h (fun (v2 : Int32) => zz_ww X (0, 0) (zz_wM a k S) 14 [(0, .ref (a 0)), (1, .int p1), (2, .int p2)] [.int v2, .ref (a 0)]) ?_ ?_
  · intro v2 h
    refine zp_X7_0 C zi_X7_corridor_X7 zm_X7_corridor_80 dX7_corridor_14 rfl h (fun S5 h => ?_)
    refine zr_aln C 0 dX7_corridor_17 rfl rfl rfl ?_
    refine zg_X7_0 C zi_X7_corridor_X7 zm_X7_corridor_80 dX7_corridor_18 rfl ?_
    refine zz_jn1_W h (fun (u6 : Unit) => zz_ww X (0, 0) (zz_wM a k S5) 28 [(0, .ref (a 0))] []) ?_ ?_
    · intro u6 h
      refine zr_aln C 0 dX7_corridor_28 rfl rfl rfl ?_
      refine zg_X7_0 C zi_X7_corridor_X7 zm_X7_corridor_80 dX7_corridor_29 rfl ?_
      refine zz_jn1_W h (fun (v9 : Int32) => zz_ww X (0, 0) (zz_wM a k S5) 40 [] [.int v9]) ?_ ?_
      · intro v9 h
        exact hret v9 S5 40 _ (0, 0) (by decide) (by decide) dX7_corridor_40 rfl h
      intro j10 hj11 h
      refine zr_if_eq (tgt := 39) C dX7_corridor_32 (by decide) rfl h (fun h => ?_) (fun h => ?_)
      · refine zr_ic (v := (-1 : Int32)) C dX7_corridor_39 (by decide) rfl ?_
        refine zr_sub [] rfl ?_
        exact hj11 ((-1 : Int32)) h
      · refine zr_ic (v := (0 : Int32)) C dX7_corridor_35 (by decide) rfl ?_
        refine zr_goto (tgt := 40) C dX7_corridor_36 (by decide) ?_
        refine zr_sub [] rfl ?_
        exact hj11 ((0 : Int32)) h
    intro j7 hj8 h
    refine zr_if_ne (tgt := 28) C dX7_corridor_21 (by decide) rfl h (fun h => ?_) (fun h => ?_)
    · refine zr_sub [0] rfl ?_
      exact hj8 () h
    · refine zr_iln C 2 dX7_corridor_24 rfl rfl rfl ?_
      refine zr_if_ge (tgt := 41) C dX7_corridor_25 (by decide) rfl h (fun h => ?_) (fun h => ?_)
      · refine zr_iln C 2 dX7_corridor_41 rfl rfl rfl ?_
        refine zr_isn C [1, 2, 3, 0] dX7_corridor_42 rfl rfl (by decide) (fun x12 => [(0, .ref (a 0)), (1, .int p1), (2, .int p2), (3, .int x12)]) h (fun _ => rfl) (fun x12 h => ?_)
        refine zr_ic (v := (0 : Int32)) C dX7_corridor_43 (by decide) rfl ?_
        refine zr_is C [1, 2, 3, 4, 0] dX7_corridor_44 rfl (by decide) (fun x13 => [(0, .ref (a 0)), (1, .int p1), (2, .int p2), (3, .int x12), (4, .int x13)]) h (fun _ => rfl) (fun x13 h => ?_)
        refine zr_sub [0, 1, 3, 4] rfl ?_
        refine zz_fix2_W (fun (v14 : Int32) (v15 : Int32) => zz_ww X (0, 0) (zz_wM a k S5) 46 [(0, .ref (a 0)), (1, .int p1), (3, .int v14), (4, .int v15)] []) ?_ N x12 x13 h
        intro rc16 hr17 v14 v15 h
        refine zr_il C 3 dX7_corridor_46 rfl rfl ?_
        refine zr_bi (v := (16 : Int32)) C dX7_corridor_48 (by decide) rfl ?_
        refine zr_icmp_ge (tgt := 149) C dX7_corridor_50 (by decide) rfl h (fun h => ?_) (fun h => ?_)
        · refine zr_ic (v := (-1 : Int32)) C dX7_corridor_149 (by decide) rfl ?_
          exact hret ((-1 : Int32)) S5 150 _ (0, 0) (by decide) (by decide) dX7_corridor_150 rfl h
        · refine zr_ic (v := (0 : Int32)) C dX7_corridor_53 (by decide) rfl ?_
          refine zr_is C [1, 2, 3, 4, 0] dX7_corridor_54 rfl (by decide) (fun x18 => [(0, .ref (a 0)), (1, .int p1), (3, .int v14), (4, .int v15), (5, .int x18)]) h (fun _ => rfl) (fun x18 h => ?_)
          refine zr_ic (v := (0 : Int32)) C dX7_corridor_56 (by decide) rfl ?_
          refine zr_is C [1, 2, 3, 4, 5, 0] dX7_corridor_57 rfl (by decide) (fun x19 => [(0, .ref (a 0)), (1, .int p1), (3, .int v14), (4, .int v15), (5, .int x18), (6, .int x19)]) h (fun _ => rfl) (fun x19 h => ?_)
          refine zz_fix2_W (fun (v20 : Int32) (v21 : Int32) => zz_ww X (0, 0) (zz_wM a k S5) 59 [(0, .ref (a 0)), (1, .int p1), (3, .int v14), (4, .int v15), (5, .int v20), (6, .int v21)] []) ?_ N x18 x19 h
          intro rc22 hr23 v20 v21 h
          refine zr_il C 5 dX7_corridor_59 rfl rfl ?_
          refine zr_aln C 0 dX7_corridor_61 rfl rfl rfl ?_
          refine zg_X7_1 C zi_X7_corridor_X7 zm_X7_corridor_66 dX7_corridor_62 rfl ?_
          refine zr_aln C 0 dX7_corridor_65 rfl rfl rfl ?_
          refine zg_X7_2 C zi_X7_corridor_X7 zm_X7_corridor_70 dX7_corridor_66 rfl ?_
          refine zr_imul C dX7_corridor_69 rfl ?_
          refine zr_aln C 0 dX7_corridor_70 rfl rfl rfl ?_
          refine zg_X7_3 C zi_X7_corridor_X7 zm_X7_corridor_73 dX7_corridor_71 rfl ?_
          refine zr_imul C dX7_corridor_74 rfl ?_
          refine zr_icmp_ge (tgt := 118) C dX7_corridor_75 (by decide) rfl h (fun h => ?_) (fun h => ?_)
          · refine zr_il C 4 dX7_corridor_118 rfl rfl ?_
            refine zz_jn1_W h (fun (u24 : Unit) => zz_ww X (0, 0) (zz_wM a k S5) 130 [(0, .ref (a 0)), (1, .int p1), (3, .int v14), (4, .int v15), (5, .int v20)] []) ?_ ?_
            · intro u24 h
              refine zr_iln C 2 dX7_corridor_130 rfl rfl rfl ?_
              refine zr_il C 4 dX7_corridor_131 rfl rfl ?_
              refine zz_jn1_W h (fun (v27 : Int32) => zz_ww X (0, 0) (zz_wM a k S5) 141 [(0, .ref (a 0)), (1, .int p1), (4, .int v15)] [.int v27, .int v14]) ?_ ?_
              · intro v27 h
                refine zr_isub C dX7_corridor_141 rfl ?_
                refine zr_isn C [1, 2, 0, 3] dX7_corridor_142 rfl rfl (by decide) (fun x30 => [(0, .ref (a 0)), (1, .int p1), (3, .int x30), (4, .int v15)]) h (fun _ => rfl) (fun x30 h => ?_)
                refine zr_iinc (v := (1 : Int32)) C 3 [1, 2, 3, 0] dX7_corridor_143 rfl (by decide) rfl (by decide) (fun x31 => [(0, .ref (a 0)), (1, .int p1), (3, .int x30), (4, .int x31)]) h (fun _ => rfl) (fun x31 h => ?_)
                refine zr_goto (tgt := 46) C dX7_corridor_146 (by decide) ?_
                exact hr17 x30 x31 h
              intro j28 hj29 h
              refine zr_if_eq (tgt := 140) C dX7_corridor_133 (by decide) rfl h (fun h => ?_) (fun h => ?_)
              · refine zr_ic (v := (0 : Int32)) C dX7_corridor_140 (by decide) rfl ?_
                refine zr_sub [0, 1, 3] rfl ?_
                exact hj29 ((0 : Int32)) h
              · refine zr_ic (v := (1 : Int32)) C dX7_corridor_136 (by decide) rfl ?_
                refine zr_goto (tgt := 141) C dX7_corridor_137 (by decide) ?_
                refine zr_sub [0, 1, 3] rfl ?_
                exact hj29 ((1 : Int32)) h
            intro j25 hj26 h
            refine zr_if_eq (tgt := 130) C dX7_corridor_120 (by decide) rfl h (fun h => ?_) (fun h => ?_)
            · refine zr_sub [0, 1, 2, 3, 4] rfl ?_
              exact hj26 () h
            · refine zr_iln C 2 dX7_corridor_123 rfl rfl rfl ?_
              refine zr_if_ne (tgt := 130) C dX7_corridor_124 (by decide) rfl h (fun h => ?_) (fun h => ?_)
              · refine zr_sub [0, 1, 2, 3, 4] rfl ?_
                exact hj26 () h
              · refine zr_il C 3 dX7_corridor_127 rfl rfl ?_
                exact hret v15 S5 129 _ (0, 0) (by decide) (by decide) dX7_corridor_129 rfl h
          · refine zr_il C 4 dX7_corridor_78 rfl rfl ?_
            refine zz_jn1_W h (fun (v32 : Int32) => zz_ww X (0, 0) (zz_wM a k S5) 110 [(0, .ref (a 0)), (1, .int p1), (3, .int v14), (4, .int v15), (6, .int v21)] [.int v32]) ?_ ?_
            · intro v32 h
              refine zr_is C [1, 2, 3, 4, 0, 5] dX7_corridor_110 rfl (by decide) (fun x35 => [(0, .ref (a 0)), (1, .int p1), (3, .int v14), (4, .int v15), (5, .int x35), (6, .int v21)]) h (fun _ => rfl) (fun x35 h => ?_)
              refine zr_iinc (v := (1 : Int32)) C 5 [1, 2, 3, 4, 5, 0] dX7_corridor_112 rfl (by decide) rfl (by decide) (fun x36 => [(0, .ref (a 0)), (1, .int p1), (3, .int v14), (4, .int v15), (5, .int x35), (6, .int x36)]) h (fun _ => rfl) (fun x36 h => ?_)
              refine zr_goto (tgt := 59) C dX7_corridor_115 (by decide) ?_
              exact hr23 x35 x36 h
            intro j33 hj34 h
            refine zz_jn1_W h (fun (u37 : Unit) => zz_ww X (0, 0) (zz_wM a k S5) 105 [(0, .ref (a 0)), (1, .int p1), (3, .int v14), (4, .int v15), (6, .int v21)] []) ?_ ?_
            · intro u37 h
              refine zr_ic (v := (1 : Int32)) C dX7_corridor_105 (by decide) rfl ?_
              refine zr_goto (tgt := 110) C dX7_corridor_106 (by decide) ?_
              exact hj34 ((1 : Int32)) h
            intro j38 hj39 h
            refine zr_if_ne (tgt := 105) C dX7_corridor_80 (by decide) rfl h (fun h => ?_) (fun h => ?_)
            · refine zr_sub [0, 1, 2, 3, 5] rfl ?_
              exact hj39 () h
            · refine zr_aln C 0 dX7_corridor_83 rfl rfl rfl ?_
              refine zg_X7_8 C zi_X7_corridor_X7 zm_X7_corridor_16 dX7_corridor_84 rfl ?_
              refine zr_il C 5 dX7_corridor_87 rfl rfl ?_
              refine zl_M3 C dX7_corridor_89 rfl h (fun h => ?_)
              refine zr_iln C 1 dX7_corridor_90 rfl rfl rfl ?_
              refine zz_jn1_W h (fun (u40 : Unit) => zz_ww X (0, 0) (zz_wM a k S5) 109 [(0, .ref (a 0)), (1, .int p1), (3, .int v14), (4, .int v15), (6, .int v21)] []) ?_ ?_
              · intro u40 h
                refine zr_ic (v := (0 : Int32)) C dX7_corridor_109 (by decide) rfl ?_
                exact hj34 ((0 : Int32)) h
              intro j41 hj42 h
              refine zr_icmp_ne (tgt := 109) C dX7_corridor_91 (by decide) rfl h (fun h => ?_) (fun h => ?_)
              · refine zr_sub [0, 1, 2, 3, 5] rfl ?_
                exact hj42 () h
              · refine zr_aln C 0 dX7_corridor_94 rfl rfl rfl ?_
                refine zr_il C 5 dX7_corridor_95 rfl rfl ?_
                refine zr_il C 3 dX7_corridor_97 rfl rfl ?_
                refine zr_cVir (wf := (zz_wM a k)) (st := []) C (fun l D v hv => zc_X7_isInBlock N l D k (a := a) S5 v21 v15 v hv) gX7_corridor_X7_isInBlock rfl zd_X7_isInBlock ⟨by decide, by decide⟩ ⟨by decide, by decide⟩ rfl ⟨0, 7, _, _, _, zk_M0, rfl⟩ (Nat.le_of_ble_eq_true rfl) rfl dX7_corridor_99 rfl rfl h (fun x43 _ h => ?_)
                refine zr_if_eq (tgt := 109) C dX7_corridor_102 (by decide) rfl h (fun h => ?_) (fun h => ?_)
                · refine zr_sub [0, 1, 2, 3, 5] rfl ?_
                  exact hj42 () h
                · refine zr_sub [0, 1, 2, 3, 5] rfl ?_
                  exact hj39 () h
      · refine zr_sub [0] rfl ?_
        exact hj8 () h
  intro j3 hj4 h
  refine zr_if_eq (tgt := 13) C dX7_corridor_6 (by decide) rfl h (fun h => ?_) (fun h => ?_)
  · refine zr_ic (v := (1 : Int32)) C dX7_corridor_13 (by decide) rfl ?_
    exact hj4 ((1 : Int32)) h
  · refine zr_ic (v := (0 : Int32)) C dX7_corridor_9 (by decide) rfl ?_
    refine zr_goto (tgt := 14) C dX7_corridor_10 (by decide) ?_
    exact hj4 ((0 : Int32)) h

def zf_X7_round (N : Nat) (S : zz_St)  : Option (Int32 × zz_St) := zz_let (zz_si S 0 ((0 : Int32))) (fun S1 => some (zz_gi S1 5, S1))
theorem zi_X7_round_X7 : ∀ w ∈ wsX70, w ∈ wsX7_round := by decide +kernel
theorem zm_X7_round_80 : Cond.fieldLink RX7 80 "GridRipUpModel" "thrown" "I" ∈ wsX7_round := by decide +kernel
theorem zm_X7_round_168 : Cond.fieldLink RX7 168 "GridRipUpModel" "rounds" "I" ∈ wsX7_round := by decide +kernel
theorem zd_X7_round : yX7_round.cls = RX7 ∧ yX7_round.cls ≠ "java/lang/invoke/MethodHandle" ∧ yX7_round.cls ≠ "java/lang/invoke/VarHandle" ∧ (parseMethodDescriptor yX7_round.desc).map (fun d => d.parameters.length) = some 0 := by decide +kernel
set_option maxHeartbeats 4000000 in
set_option maxRecDepth 100000 in
theorem zc_X7_round (N : Nat) (l : Launch) (D : va_G) (k : Nat → ClassId) {a : Nat → Nat} (S : zz_St)   (v : Int32) (u : zz_St) (h : zf_X7_round N S  = some (v, u)) : zz_MI l yX7_round wsX7_round ({ frames := 0, cells := 0, slots := 0, locals := 0 } : Room) D k (zz_wM a k) [.ref (a 0)] S (v, u) := by
  refine zz_metI (cc := cX7_round) (nL := 1) (ty := .int) (by decide) rfl (Nat.le_of_ble_eq_true rfl) ?_
  intro X C hret
  have C : zz_ok X cX7_round RX7 wsX7_round k 1 ({ frames := 0, cells := 0, slots := 0, locals := 0 } : Room) := C
  unfold zf_X7_round at h
  show zz_ww X (0, 0) (zz_wM a k S) 0 [(0, .ref (a 0))] []
  refine zr_aln C 0 dX7_round_0 rfl rfl rfl ?_
  refine zr_ic (v := (0 : Int32)) C dX7_round_1 (by decide) rfl ?_
  refine zp_X7_0 C zi_X7_round_X7 zm_X7_round_80 dX7_round_2 rfl h (fun S1 h => ?_)
  refine zr_aln C 0 dX7_round_5 rfl rfl rfl ?_
  refine zg_X7_21 C zi_X7_round_X7 zm_X7_round_168 dX7_round_6 rfl ?_
  exact hret (zz_gi S1 5) S1 9 _ (0, 0) (by decide) (by decide) dX7_round_9 rfl h

def zf_X7_holds (N : Nat) (S : zz_St) (p1 : Int32) (p2 : Int32) : Option Int32 := zz_jn1 (fun (v1 : Int32) => zz_gd (zz_bl v1) (some (v1))) (fun j2 => zz_jn1 (fun (u4 : Unit) => j2 ((0 : Int32))) (fun j5 => if p2 = ((-1 : Int32)) then (j5 ()) else (zz_gd (zz_in p2 1024) (if (zz_ga S 3 p2.toNatClampNeg) = p1 then (j2 ((1 : Int32))) else (j5 ())))))
theorem zi_X7_holds_X7 : ∀ w ∈ wsX70, w ∈ wsX7_holds := by decide +kernel
theorem zm_X7_holds_16 : Cond.fieldLink RX7 16 "GridRipUpModel" "holder" "[I" ∈ wsX7_holds := by decide +kernel
theorem zd_X7_holds : yX7_holds.cls = RX7 ∧ yX7_holds.cls ≠ "java/lang/invoke/MethodHandle" ∧ yX7_holds.cls ≠ "java/lang/invoke/VarHandle" ∧ (parseMethodDescriptor yX7_holds.desc).map (fun d => d.parameters.length) = some 2 := by decide +kernel
set_option maxHeartbeats 4000000 in
set_option maxRecDepth 100000 in
theorem zc_X7_holds (N : Nat) (l : Launch) (D : va_G) (k : Nat → ClassId) {a : Nat → Nat} (S : zz_St) (p1 : Int32) (p2 : Int32)  (v : Int32) (h : zf_X7_holds N S p1 p2 = some v) : zz_MI l yX7_holds wsX7_holds ({ frames := 0, cells := 0, slots := 0, locals := 0 } : Room) D k (zz_wM a k) [.ref (a 0), .int p1, .int p2] S (v, S) := by
  refine zz_metI (cc := cX7_holds) (nL := 3) (ty := .boolean) (by decide) rfl (Nat.le_of_ble_eq_true rfl) ?_
  intro X C hret
  have C : zz_ok X cX7_holds RX7 wsX7_holds k 3 ({ frames := 0, cells := 0, slots := 0, locals := 0 } : Room) := C
  unfold zf_X7_holds at h
  show zz_ww X (0, 0) (zz_wM a k S) 0 [(0, .ref (a 0)), (1, .int p1), (2, .int p2)] []
  refine zr_iln C 2 dX7_holds_0 rfl rfl rfl ?_
  refine zr_ic (v := (-1 : Int32)) C dX7_holds_1 (by decide) rfl ?_
  refine zz_jn1_W h (fun (v1 : Int32) => zz_ww X (0, 0) (zz_wM a k S) 20 [] [.int v1]) ?_ ?_
  · intro v1 h
    obtain ⟨hb, h⟩ := zz_gd_some h
    exact hret v1 S 20 _ (0, 0) (by decide) (by decide) dX7_holds_20 (zz_bl_nar hb) (zz_ro h)
  intro j2 hj3 h
  refine zz_jn1_W h (fun (u4 : Unit) => zz_ww X (0, 0) (zz_wM a k S) 19 [] []) ?_ ?_
  · intro u4 h
    refine zr_ic (v := (0 : Int32)) C dX7_holds_19 (by decide) rfl ?_
    exact hj3 ((0 : Int32)) h
  intro j5 hj6 h
  refine zr_icmp_eq (tgt := 19) C dX7_holds_2 (by decide) rfl h (fun h => ?_) (fun h => ?_)
  · refine zr_sub [] rfl ?_
    exact hj6 () h
  · refine zr_aln C 0 dX7_holds_5 rfl rfl rfl ?_
    refine zg_X7_8 C zi_X7_holds_X7 zm_X7_holds_16 dX7_holds_6 rfl ?_
    refine zr_iln C 2 dX7_holds_9 rfl rfl rfl ?_
    refine zl_M3 C dX7_holds_10 rfl h (fun h => ?_)
    refine zr_iln C 1 dX7_holds_11 rfl rfl rfl ?_
    refine zr_icmp_ne (tgt := 19) C dX7_holds_12 (by decide) rfl h (fun h => ?_) (fun h => ?_)
    · refine zr_sub [] rfl ?_
      exact hj6 () h
    · refine zr_ic (v := (1 : Int32)) C dX7_holds_15 (by decide) rfl ?_
      refine zr_goto (tgt := 20) C dX7_holds_16 (by decide) ?_
      refine zr_sub [] rfl ?_
      exact hj3 ((1 : Int32)) h

def zf_X7_band (N : Nat) (S : zz_St) (p1 : Int32) : Option (Int32 × zz_St) := zz_b1 (zf_X7_isNet N S p1) (fun x1 => zz_jn1 (fun (v2 : Int32) => zz_let (zz_si S 0 v2) (fun S5 => zz_jn1 (fun (u6 : Unit) => some ((0 : Int32), S5)) (fun j7 => if (zz_gi S5 0) = 0 then (zz_gd (zz_in p1 12) (if (zz_ga S5 10 p1.toNatClampNeg) = 0 then (j7 ()) else (zz_let ((0 : Int32)) (fun x9 => zz_fix1 (fun rc11 (v10 : Int32) => if (((zz_gi S5 1) * (zz_gi S5 2)) * (zz_gi S5 3)) ≤ v10 then (some ((1 : Int32), S5)) else (zz_gd (zz_in v10 1024) (zz_jn1 (fun (u13 : Unit) => zz_let (v10 + (1 : Int32)) (fun x16 => rc11 x16)) (fun j14 => if (zz_ga S5 3 v10.toNatClampNeg) = p1 then (zz_b1 (zf_X7_layerOf N S5 v10) (fun x17 => zz_let x17 (fun x18 => zz_gd (!((zz_gi S5 1) == 0)) (zz_let (v10 - v10 / (zz_gi S5 1) * (zz_gi S5 1)) (fun x19 => zz_b1 (zf_X7_rowOf N S5 v10) (fun x20 => zz_let x20 (fun x21 => zz_let ((-1 : Int32)) (fun x22 => zz_fix1 (fun rc24 (v23 : Int32) => if ((2 : Int32)) ≤ v23 then (j14 ()) else (zz_let ((-1 : Int32)) (fun x26 => zz_fix1 (fun rc28 (v27 : Int32) => if ((2 : Int32)) ≤ v27 then (zz_let (v23 + (2 : Int32)) (fun x30 => rc24 x30)) else (zz_b1 (zf_X7_cell N S5 x18 (x19 + v23) x21) (fun x31 => zz_b1 (zf_X7_holds N S5 p1 x31) (fun x32 => zz_jn1 (fun (u33 : Unit) => zz_let (v27 + (2 : Int32)) (fun x36 => rc28 x36)) (fun j34 => if x32 = 0 then (j34 ()) else (zz_b1 (zf_X7_cell N S5 x18 x19 (x21 + v27)) (fun x37 => zz_b1 (zf_X7_holds N S5 p1 x37) (fun x38 => if x38 = 0 then (j34 ()) else (zz_b1 (zf_X7_cell N S5 x18 (x19 + v23) (x21 + v27)) (fun x39 => zz_let x39 (fun x40 => zz_gd (zz_in x40 1024) (zz_jn1 (fun (u41 : Unit) => some ((0 : Int32), S5)) (fun j42 => if (zz_ga S5 5 x40.toNatClampNeg) = 0 then (zz_gd (zz_in x40 1024) (if (zz_ga S5 3 x40.toNatClampNeg) = ((-1 : Int32)) then (j34 ()) else (zz_gd (zz_in x40 1024) (if (zz_ga S5 3 x40.toNatClampNeg) = p1 then (j34 ()) else (j42 ()))))) else (j42 ())))))))))))))) N x26))) N x22)))))))) else (j14 ()))))) N x9)))) else (j7 ())))) (fun j3 => if x1 = 0 then (j3 ((1 : Int32))) else (j3 ((0 : Int32)))))
theorem zi_X7_band_X7 : ∀ w ∈ wsX70, w ∈ wsX7_band := by decide +kernel
theorem zm_X7_band_80 : Cond.fieldLink RX7 80 "GridRipUpModel" "thrown" "I" ∈ wsX7_band := by decide +kernel
theorem zm_X7_band_39 : Cond.fieldLink RX7 39 "GridRipUpModel" "led" "[Z" ∈ wsX7_band := by decide +kernel
theorem zm_X7_band_66 : Cond.fieldLink RX7 66 "GridRipUpModel" "wide" "I" ∈ wsX7_band := by decide +kernel
theorem zm_X7_band_70 : Cond.fieldLink RX7 70 "GridRipUpModel" "high" "I" ∈ wsX7_band := by decide +kernel
theorem zm_X7_band_73 : Cond.fieldLink RX7 73 "GridRipUpModel" "deep" "I" ∈ wsX7_band := by decide +kernel
theorem zm_X7_band_16 : Cond.fieldLink RX7 16 "GridRipUpModel" "holder" "[I" ∈ wsX7_band := by decide +kernel
theorem zm_X7_band_23 : Cond.fieldLink RX7 23 "GridRipUpModel" "barred" "[Z" ∈ wsX7_band := by decide +kernel
theorem zd_X7_band : yX7_band.cls = RX7 ∧ yX7_band.cls ≠ "java/lang/invoke/MethodHandle" ∧ yX7_band.cls ≠ "java/lang/invoke/VarHandle" ∧ (parseMethodDescriptor yX7_band.desc).map (fun d => d.parameters.length) = some 1 := by decide +kernel
set_option maxHeartbeats 4000000 in
set_option maxRecDepth 100000 in
theorem zc_X7_band (N : Nat) (l : Launch) (D : va_G) (k : Nat → ClassId) {a : Nat → Nat} (S : zz_St) (p1 : Int32)  (v : Int32) (u : zz_St) (h : zf_X7_band N S p1 = some (v, u)) : zz_MI l yX7_band wsX7_band ({ frames := 1, cells := 0, slots := 0, locals := 24 } : Room) D k (zz_wM a k) [.ref (a 0), .int p1] S (v, u) := by
  refine zz_metI (cc := cX7_band) (nL := 9) (ty := .boolean) (by decide) rfl (Nat.le_of_ble_eq_true rfl) ?_
  intro X C hret
  have C : zz_ok X cX7_band RX7 wsX7_band k 9 ({ frames := 1, cells := 0, slots := 0, locals := 24 } : Room) := C
  unfold zf_X7_band at h
  show zz_ww X (0, 0) (zz_wM a k S) 0 [(0, .ref (a 0)), (1, .int p1)] []
  refine zr_aln C 0 dX7_band_0 rfl rfl rfl ?_
  refine zr_aln C 0 dX7_band_1 rfl rfl rfl ?_
  refine zr_iln C 1 dX7_band_2 rfl rfl rfl ?_
  refine zr_cVir (wf := (zz_wM a k)) (st := [.ref (a 0)]) C (fun l D v hv => zc_X7_isNet N l D k (a := a) S p1 v hv) gX7_band_X7_isNet rfl zd_X7_isNet ⟨by decide, by decide⟩ ⟨by decide, by decide⟩ rfl ⟨0, 7, _, _, _, zk_M0, rfl⟩ (Nat.le_of_ble_eq_true rfl) rfl dX7_band_3 rfl rfl h (fun x1 _ h => ?_)
  refine zz_jn1_W h (fun (v2 : Int32) => zz_ww X (0, 0) (zz_wM a k S) 14 [(0, .ref (a 0)), (1, .int p1)] [.int v2, .ref (a 0)]) ?_ ?_
  · intro v2 h
    refine zp_X7_0 C zi_X7_band_X7 zm_X7_band_80 dX7_band_14 rfl h (fun S5 h => ?_)
    refine zr_aln C 0 dX7_band_17 rfl rfl rfl ?_
    refine zg_X7_0 C zi_X7_band_X7 zm_X7_band_80 dX7_band_18 rfl ?_
    refine zz_jn1_W h (fun (u6 : Unit) => zz_ww X (0, 0) (zz_wM a k S5) 33 [] []) ?_ ?_
    · intro u6 h
      refine zr_ic (v := (0 : Int32)) C dX7_band_33 (by decide) rfl ?_
      exact hret ((0 : Int32)) S5 34 _ (0, 0) (by decide) (by decide) dX7_band_34 rfl h
    intro j7 hj8 h
    refine zr_if_ne (tgt := 33) C dX7_band_21 (by decide) rfl h (fun h => ?_) (fun h => ?_)
    · refine zr_sub [] rfl ?_
      exact hj8 () h
    · refine zr_aln C 0 dX7_band_24 rfl rfl rfl ?_
      refine zg_X7_15 C zi_X7_band_X7 zm_X7_band_39 dX7_band_25 rfl ?_
      refine zr_iln C 1 dX7_band_28 rfl rfl rfl ?_
      refine zl_M10 C dX7_band_29 rfl h (fun h => ?_)
      refine zr_if_ne (tgt := 35) C dX7_band_30 (by decide) rfl h (fun h => ?_) (fun h => ?_)
      · refine zr_ic (v := (0 : Int32)) C dX7_band_35 (by decide) rfl ?_
        refine zr_isn C [1, 2, 0] dX7_band_36 rfl rfl (by decide) (fun x9 => [(0, .ref (a 0)), (1, .int p1), (2, .int x9)]) h (fun _ => rfl) (fun x9 h => ?_)
        refine zz_fix1_W (fun (v10 : Int32) => zz_ww X (0, 0) (zz_wM a k S5) 37 [(0, .ref (a 0)), (1, .int p1), (2, .int v10)] []) ?_ N x9 h
        intro rc11 hr12 v10 h
        refine zr_iln C 2 dX7_band_37 rfl rfl rfl ?_
        refine zr_aln C 0 dX7_band_38 rfl rfl rfl ?_
        refine zg_X7_1 C zi_X7_band_X7 zm_X7_band_66 dX7_band_39 rfl ?_
        refine zr_aln C 0 dX7_band_42 rfl rfl rfl ?_
        refine zg_X7_2 C zi_X7_band_X7 zm_X7_band_70 dX7_band_43 rfl ?_
        refine zr_imul C dX7_band_46 rfl ?_
        refine zr_aln C 0 dX7_band_47 rfl rfl rfl ?_
        refine zg_X7_3 C zi_X7_band_X7 zm_X7_band_73 dX7_band_48 rfl ?_
        refine zr_imul C dX7_band_51 rfl ?_
        refine zr_icmp_ge (tgt := 219) C dX7_band_52 (by decide) rfl h (fun h => ?_) (fun h => ?_)
        · refine zr_ic (v := (1 : Int32)) C dX7_band_219 (by decide) rfl ?_
          exact hret ((1 : Int32)) S5 220 _ (0, 0) (by decide) (by decide) dX7_band_220 rfl h
        · refine zr_aln C 0 dX7_band_55 rfl rfl rfl ?_
          refine zg_X7_8 C zi_X7_band_X7 zm_X7_band_16 dX7_band_56 rfl ?_
          refine zr_iln C 2 dX7_band_59 rfl rfl rfl ?_
          refine zl_M3 C dX7_band_60 rfl h (fun h => ?_)
          refine zr_iln C 1 dX7_band_61 rfl rfl rfl ?_
          refine zz_jn1_W h (fun (u13 : Unit) => zz_ww X (0, 0) (zz_wM a k S5) 213 [(0, .ref (a 0)), (1, .int p1), (2, .int v10)] []) ?_ ?_
          · intro u13 h
            refine zr_iinc (v := (1 : Int32)) C 2 [1, 2, 0] dX7_band_213 rfl (by decide) rfl (by decide) (fun x16 => [(0, .ref (a 0)), (1, .int p1), (2, .int x16)]) h (fun _ => rfl) (fun x16 h => ?_)
            refine zr_goto (tgt := 37) C dX7_band_216 (by decide) ?_
            exact hr12 x16 h
          intro j14 hj15 h
          refine zr_icmp_eq (tgt := 68) C dX7_band_62 (by decide) rfl h (fun h => ?_) (fun h => ?_)
          · refine zr_aln C 0 dX7_band_68 rfl rfl rfl ?_
            refine zr_iln C 2 dX7_band_69 rfl rfl rfl ?_
            refine zr_cVir (wf := (zz_wM a k)) (st := []) C (fun l D v hv => zc_X7_layerOf N l D k (a := a) S5 v10 v hv) gX7_band_X7_layerOf rfl zd_X7_layerOf ⟨by decide, by decide⟩ ⟨by decide, by decide⟩ rfl ⟨0, 7, _, _, _, zk_M0, rfl⟩ (Nat.le_of_ble_eq_true rfl) rfl dX7_band_70 rfl rfl h (fun x17 _ h => ?_)
            refine zr_isn C [1, 2, 3, 0] dX7_band_73 rfl rfl (by decide) (fun x18 => [(0, .ref (a 0)), (1, .int p1), (2, .int v10), (3, .int x18)]) h (fun _ => rfl) (fun x18 h => ?_)
            refine zr_iln C 2 dX7_band_74 rfl rfl rfl ?_
            refine zr_aln C 0 dX7_band_75 rfl rfl rfl ?_
            refine zg_X7_1 C zi_X7_band_X7 zm_X7_band_66 dX7_band_76 rfl ?_
            refine zr_irem C dX7_band_79 rfl h (fun h => ?_)
            refine zr_is C [1, 2, 3, 4, 0] dX7_band_80 rfl (by decide) (fun x19 => [(0, .ref (a 0)), (1, .int p1), (2, .int v10), (3, .int x18), (4, .int x19)]) h (fun _ => rfl) (fun x19 h => ?_)
            refine zr_aln C 0 dX7_band_82 rfl rfl rfl ?_
            refine zr_iln C 2 dX7_band_83 rfl rfl rfl ?_
            refine zr_cVir (wf := (zz_wM a k)) (st := []) C (fun l D v hv => zc_X7_rowOf N l D k (a := a) S5 v10 v hv) gX7_band_X7_rowOf rfl zd_X7_rowOf ⟨by decide, by decide⟩ ⟨by decide, by decide⟩ rfl ⟨0, 7, _, _, _, zk_M0, rfl⟩ (Nat.le_of_ble_eq_true rfl) rfl dX7_band_84 rfl rfl h (fun x20 _ h => ?_)
            refine zr_is C [1, 2, 3, 4, 5, 0] dX7_band_87 rfl (by decide) (fun x21 => [(0, .ref (a 0)), (1, .int p1), (2, .int v10), (3, .int x18), (4, .int x19), (5, .int x21)]) h (fun _ => rfl) (fun x21 h => ?_)
            refine zr_ic (v := (-1 : Int32)) C dX7_band_89 (by decide) rfl ?_
            refine zr_is C [1, 2, 3, 4, 5, 6, 0] dX7_band_90 rfl (by decide) (fun x22 => [(0, .ref (a 0)), (1, .int p1), (2, .int v10), (3, .int x18), (4, .int x19), (5, .int x21), (6, .int x22)]) h (fun _ => rfl) (fun x22 h => ?_)
            refine zz_fix1_W (fun (v23 : Int32) => zz_ww X (0, 0) (zz_wM a k S5) 92 [(0, .ref (a 0)), (1, .int p1), (2, .int v10), (3, .int x18), (4, .int x19), (5, .int x21), (6, .int v23)] []) ?_ N x22 h
            intro rc24 hr25 v23 h
            refine zr_il C 6 dX7_band_92 rfl rfl ?_
            refine zr_ic (v := (2 : Int32)) C dX7_band_94 (by decide) rfl ?_
            refine zr_icmp_ge (tgt := 213) C dX7_band_95 (by decide) rfl h (fun h => ?_) (fun h => ?_)
            · refine zr_sub [0, 1, 2] rfl ?_
              exact hj15 () h
            · refine zr_ic (v := (-1 : Int32)) C dX7_band_98 (by decide) rfl ?_
              refine zr_is C [1, 2, 3, 4, 5, 6, 7, 0] dX7_band_99 rfl (by decide) (fun x26 => [(0, .ref (a 0)), (1, .int p1), (2, .int v10), (3, .int x18), (4, .int x19), (5, .int x21), (6, .int v23), (7, .int x26)]) h (fun _ => rfl) (fun x26 h => ?_)
              refine zz_fix1_W (fun (v27 : Int32) => zz_ww X (0, 0) (zz_wM a k S5) 101 [(0, .ref (a 0)), (1, .int p1), (2, .int v10), (3, .int x18), (4, .int x19), (5, .int x21), (6, .int v23), (7, .int v27)] []) ?_ N x26 h
              intro rc28 hr29 v27 h
              refine zr_il C 7 dX7_band_101 rfl rfl ?_
              refine zr_ic (v := (2 : Int32)) C dX7_band_103 (by decide) rfl ?_
              refine zr_icmp_ge (tgt := 207) C dX7_band_104 (by decide) rfl h (fun h => ?_) (fun h => ?_)
              · refine zr_iinc (v := (2 : Int32)) C 6 [1, 2, 3, 4, 5, 6, 0, 7] dX7_band_207 rfl (by decide) rfl (by decide) (fun x30 => [(0, .ref (a 0)), (1, .int p1), (2, .int v10), (3, .int x18), (4, .int x19), (5, .int x21), (6, .int x30), (7, .int v27)]) h (fun _ => rfl) (fun x30 h => ?_)
                refine zr_goto (tgt := 92) C dX7_band_210 (by decide) ?_
                refine zr_sub [0, 1, 2, 3, 4, 5, 6] rfl ?_
                exact hr25 x30 h
              · refine zr_aln C 0 dX7_band_107 rfl rfl rfl ?_
                refine zr_iln C 1 dX7_band_108 rfl rfl rfl ?_
                refine zr_aln C 0 dX7_band_109 rfl rfl rfl ?_
                refine zr_iln C 3 dX7_band_110 rfl rfl rfl ?_
                refine zr_il C 4 dX7_band_111 rfl rfl ?_
                refine zr_il C 6 dX7_band_113 rfl rfl ?_
                refine zr_iadd C dX7_band_115 rfl ?_
                refine zr_il C 5 dX7_band_116 rfl rfl ?_
                refine zr_cVir (wf := (zz_wM a k)) (st := [.int p1, .ref (a 0)]) C (fun l D v hv => zc_X7_cell N l D k (a := a) S5 x18 (x19 + v23) x21 v hv) gX7_band_X7_cell rfl zd_X7_cell ⟨by decide, by decide⟩ ⟨by decide, by decide⟩ rfl ⟨0, 7, _, _, _, zk_M0, rfl⟩ (Nat.le_of_ble_eq_true rfl) rfl dX7_band_118 rfl rfl h (fun x31 _ h => ?_)
                refine zr_cVir (wf := (zz_wM a k)) (st := []) C (fun l D v hv => zc_X7_holds N l D k (a := a) S5 p1 x31 v hv) gX7_band_X7_holds rfl zd_X7_holds ⟨by decide, by decide⟩ ⟨by decide, by decide⟩ rfl ⟨0, 7, _, _, _, zk_M0, rfl⟩ (Nat.le_of_ble_eq_true rfl) rfl dX7_band_121 rfl rfl h (fun x32 _ h => ?_)
                refine zz_jn1_W h (fun (u33 : Unit) => zz_ww X (0, 0) (zz_wM a k S5) 201 [(0, .ref (a 0)), (1, .int p1), (2, .int v10), (3, .int x18), (4, .int x19), (5, .int x21), (6, .int v23), (7, .int v27)] []) ?_ ?_
                · intro u33 h
                  refine zr_iinc (v := (2 : Int32)) C 7 [1, 2, 3, 4, 5, 6, 7, 0] dX7_band_201 rfl (by decide) rfl (by decide) (fun x36 => [(0, .ref (a 0)), (1, .int p1), (2, .int v10), (3, .int x18), (4, .int x19), (5, .int x21), (6, .int v23), (7, .int x36)]) h (fun _ => rfl) (fun x36 h => ?_)
                  refine zr_goto (tgt := 101) C dX7_band_204 (by decide) ?_
                  exact hr29 x36 h
                intro j34 hj35 h
                refine zr_if_eq (tgt := 201) C dX7_band_124 (by decide) rfl h (fun h => ?_) (fun h => ?_)
                · exact hj35 () h
                · refine zr_aln C 0 dX7_band_127 rfl rfl rfl ?_
                  refine zr_iln C 1 dX7_band_128 rfl rfl rfl ?_
                  refine zr_aln C 0 dX7_band_129 rfl rfl rfl ?_
                  refine zr_iln C 3 dX7_band_130 rfl rfl rfl ?_
                  refine zr_il C 4 dX7_band_131 rfl rfl ?_
                  refine zr_il C 5 dX7_band_133 rfl rfl ?_
                  refine zr_il C 7 dX7_band_135 rfl rfl ?_
                  refine zr_iadd C dX7_band_137 rfl ?_
                  refine zr_cVir (wf := (zz_wM a k)) (st := [.int p1, .ref (a 0)]) C (fun l D v hv => zc_X7_cell N l D k (a := a) S5 x18 x19 (x21 + v27) v hv) gX7_band_X7_cell rfl zd_X7_cell ⟨by decide, by decide⟩ ⟨by decide, by decide⟩ rfl ⟨0, 7, _, _, _, zk_M0, rfl⟩ (Nat.le_of_ble_eq_true rfl) rfl dX7_band_138 rfl rfl h (fun x37 _ h => ?_)
                  refine zr_cVir (wf := (zz_wM a k)) (st := []) C (fun l D v hv => zc_X7_holds N l D k (a := a) S5 p1 x37 v hv) gX7_band_X7_holds rfl zd_X7_holds ⟨by decide, by decide⟩ ⟨by decide, by decide⟩ rfl ⟨0, 7, _, _, _, zk_M0, rfl⟩ (Nat.le_of_ble_eq_true rfl) rfl dX7_band_141 rfl rfl h (fun x38 _ h => ?_)
                  refine zr_if_ne (tgt := 150) C dX7_band_144 (by decide) rfl h (fun h => ?_) (fun h => ?_)
                  · refine zr_aln C 0 dX7_band_150 rfl rfl rfl ?_
                    refine zr_iln C 3 dX7_band_151 rfl rfl rfl ?_
                    refine zr_il C 4 dX7_band_152 rfl rfl ?_
                    refine zr_il C 6 dX7_band_154 rfl rfl ?_
                    refine zr_iadd C dX7_band_156 rfl ?_
                    refine zr_il C 5 dX7_band_157 rfl rfl ?_
                    refine zr_il C 7 dX7_band_159 rfl rfl ?_
                    refine zr_iadd C dX7_band_161 rfl ?_
                    refine zr_cVir (wf := (zz_wM a k)) (st := []) C (fun l D v hv => zc_X7_cell N l D k (a := a) S5 x18 (x19 + v23) (x21 + v27) v hv) gX7_band_X7_cell rfl zd_X7_cell ⟨by decide, by decide⟩ ⟨by decide, by decide⟩ rfl ⟨0, 7, _, _, _, zk_M0, rfl⟩ (Nat.le_of_ble_eq_true rfl) rfl dX7_band_162 rfl rfl h (fun x39 _ h => ?_)
                    refine zr_is C [1, 2, 3, 4, 5, 6, 7, 8, 0] dX7_band_165 rfl (by decide) (fun x40 => [(0, .ref (a 0)), (1, .int p1), (2, .int v10), (3, .int x18), (4, .int x19), (5, .int x21), (6, .int v23), (7, .int v27), (8, .int x40)]) h (fun _ => rfl) (fun x40 h => ?_)
                    refine zr_aln C 0 dX7_band_167 rfl rfl rfl ?_
                    refine zg_X7_10 C zi_X7_band_X7 zm_X7_band_23 dX7_band_168 rfl ?_
                    refine zr_il C 8 dX7_band_171 rfl rfl ?_
                    refine zl_M5 C dX7_band_173 rfl h (fun h => ?_)
                    refine zz_jn1_W h (fun (u41 : Unit) => zz_ww X (0, 0) (zz_wM a k S5) 199 [] []) ?_ ?_
                    · intro u41 h
                      refine zr_ic (v := (0 : Int32)) C dX7_band_199 (by decide) rfl ?_
                      exact hret ((0 : Int32)) S5 200 _ (0, 0) (by decide) (by decide) dX7_band_200 rfl h
                    intro j42 hj43 h
                    refine zr_if_ne (tgt := 199) C dX7_band_174 (by decide) rfl h (fun h => ?_) (fun h => ?_)
                    · refine zr_sub [] rfl ?_
                      exact hj43 () h
                    · refine zr_aln C 0 dX7_band_177 rfl rfl rfl ?_
                      refine zg_X7_8 C zi_X7_band_X7 zm_X7_band_16 dX7_band_178 rfl ?_
                      refine zr_il C 8 dX7_band_181 rfl rfl ?_
                      refine zl_M3 C dX7_band_183 rfl h (fun h => ?_)
                      refine zr_ic (v := (-1 : Int32)) C dX7_band_184 (by decide) rfl ?_
                      refine zr_icmp_eq (tgt := 201) C dX7_band_185 (by decide) rfl h (fun h => ?_) (fun h => ?_)
                      · refine zr_sub [0, 1, 2, 3, 4, 5, 6, 7] rfl ?_
                        exact hj35 () h
                      · refine zr_aln C 0 dX7_band_188 rfl rfl rfl ?_
                        refine zg_X7_8 C zi_X7_band_X7 zm_X7_band_16 dX7_band_189 rfl ?_
                        refine zr_il C 8 dX7_band_192 rfl rfl ?_
                        refine zl_M3 C dX7_band_194 rfl h (fun h => ?_)
                        refine zr_iln C 1 dX7_band_195 rfl rfl rfl ?_
                        refine zr_icmp_eq (tgt := 201) C dX7_band_196 (by decide) rfl h (fun h => ?_) (fun h => ?_)
                        · refine zr_sub [0, 1, 2, 3, 4, 5, 6, 7] rfl ?_
                          exact hj35 () h
                        · refine zr_sub [] rfl ?_
                          exact hj43 () h
                  · refine zr_goto (tgt := 201) C dX7_band_147 (by decide) ?_
                    exact hj35 () h
          · refine zr_goto (tgt := 213) C dX7_band_65 (by decide) ?_
            exact hj15 () h
      · refine zr_sub [] rfl ?_
        exact hj8 () h
  intro j3 hj4 h
  refine zr_if_eq (tgt := 13) C dX7_band_6 (by decide) rfl h (fun h => ?_) (fun h => ?_)
  · refine zr_ic (v := (1 : Int32)) C dX7_band_13 (by decide) rfl ?_
    exact hj4 ((1 : Int32)) h
  · refine zr_ic (v := (0 : Int32)) C dX7_band_9 (by decide) rfl ?_
    refine zr_goto (tgt := 14) C dX7_band_10 (by decide) ?_
    exact hj4 ((0 : Int32)) h


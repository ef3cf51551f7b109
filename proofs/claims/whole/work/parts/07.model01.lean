def zf_X7_cost (N : Nat) (S : zz_St) (p1 : Int32) (p2 : Int32) (p3 : Int32) (p4 : Int32) : Option (Int32 × zz_St) := zz_jn1 (fun (v1 : Int32) => zz_let (zz_si S 0 v1) (fun S4 => if (zz_gi S4 0) = 0 then (zz_gd (zz_in p1 4) (zz_jn1 (fun (v5 : Int32) => zz_let v5 (fun x8 => zz_gd (zz_in p1 4) (zz_let (zz_sa S4 7 (upd (zz_ga S4 7) p1.toNatClampNeg p2)) (fun S9 => zz_gd (zz_in p1 4) (zz_let (zz_sa S9 8 (upd (zz_ga S9 8) p1.toNatClampNeg p3)) (fun S10 => zz_gd (zz_in p1 4) (zz_let (zz_sa S10 9 (upd (zz_ga S10 9) p1.toNatClampNeg p4)) (fun S11 => zz_gd (zz_bl x8) (some (x8, S11)))))))))) (fun j6 => zz_jn1 (fun (u12 : Unit) => j6 ((1 : Int32))) (fun j13 => if (zz_ga S4 7 p1.toNatClampNeg) = p2 then (zz_gd (zz_in p1 4) (if (zz_ga S4 8 p1.toNatClampNeg) = p3 then (zz_gd (zz_in p1 4) (if (zz_ga S4 9 p1.toNatClampNeg) = p4 then (j6 ((0 : Int32))) else (j13 ()))) else (j13 ()))) else (j13 ()))))) else (some ((0 : Int32), S4)))) (fun j2 => zz_jn1 (fun (u15 : Unit) => j2 ((1 : Int32))) (fun j16 => if p1 < 0 then (j16 ()) else (if p1 < (zz_gi S 3) then (zz_b1 (zf_X7_isCost N p2) (fun x18 => zz_jn1 (fun (u19 : Unit) => j2 ((2 : Int32))) (fun j20 => if x18 = 0 then (j20 ()) else (zz_b1 (zf_X7_isCost N p3) (fun x22 => if x22 = 0 then (j20 ()) else (zz_b1 (zf_X7_isCost N p4) (fun x23 => if x23 = 0 then (j20 ()) else (j2 ((0 : Int32)))))))))) else (j16 ()))))
theorem zi_X7_cost_X7 : ∀ w ∈ wsX70, w ∈ wsX7_cost := by decide +kernel
theorem zm_X7_cost_80 : Cond.fieldLink RX7 80 "GridRipUpModel" "thrown" "I" ∈ wsX7_cost := by decide +kernel
theorem zm_X7_cost_30 : Cond.fieldLink RX7 30 "GridRipUpModel" "across" "[I" ∈ wsX7_cost := by decide +kernel
theorem zm_X7_cost_33 : Cond.fieldLink RX7 33 "GridRipUpModel" "vias" "[I" ∈ wsX7_cost := by decide +kernel
theorem zm_X7_cost_36 : Cond.fieldLink RX7 36 "GridRipUpModel" "near" "[I" ∈ wsX7_cost := by decide +kernel
theorem zm_X7_cost_73 : Cond.fieldLink RX7 73 "GridRipUpModel" "deep" "I" ∈ wsX7_cost := by decide +kernel
theorem zd_X7_cost : yX7_cost.cls = RX7 ∧ yX7_cost.cls ≠ "java/lang/invoke/MethodHandle" ∧ yX7_cost.cls ≠ "java/lang/invoke/VarHandle" ∧ (parseMethodDescriptor yX7_cost.desc).map (fun d => d.parameters.length) = some 4 := by decide +kernel
set_option maxHeartbeats 4000000 in
set_option maxRecDepth 100000 in
theorem zc_X7_cost (N : Nat) (l : Launch) (D : va_G) (k : Nat → ClassId) {a : Nat → Nat} (S : zz_St) (p1 : Int32) (p2 : Int32) (p3 : Int32) (p4 : Int32)  (v : Int32) (u : zz_St) (h : zf_X7_cost N S p1 p2 p3 p4 = some (v, u)) : zz_MI l yX7_cost wsX7_cost ({ frames := 1, cells := 0, slots := 0, locals := 20 } : Room) D k (zz_wM a k) [.ref (a 0), .int p1, .int p2, .int p3, .int p4] S (v, u) := by
  refine zz_metI (cc := cX7_cost) (nL := 6) (ty := .boolean) (by decide) rfl (Nat.le_of_ble_eq_true rfl) ?_
  intro X C hret
  have C : zz_ok X cX7_cost RX7 wsX7_cost k 6 ({ frames := 1, cells := 0, slots := 0, locals := 20 } : Room) := C
  unfold zf_X7_cost at h
  show zz_ww X (0, 0) (zz_wM a k S) 0 [(0, .ref (a 0)), (1, .int p1), (2, .int p2), (3, .int p3), (4, .int p4)] []
  refine zr_aln C 0 dX7_cost_0 rfl rfl rfl ?_
  refine zr_iln C 1 dX7_cost_1 rfl rfl rfl ?_
  refine zz_jn1_W h (fun (v1 : Int32) => zz_ww X (0, 0) (zz_wM a k S) 44 [(0, .ref (a 0)), (1, .int p1), (2, .int p2), (3, .int p3), (4, .int p4)] [.int v1, .ref (a 0)]) ?_ ?_
  · intro v1 h
    refine zp_X7_0 C zi_X7_cost_X7 zm_X7_cost_80 dX7_cost_44 rfl h (fun S4 h => ?_)
    refine zr_aln C 0 dX7_cost_47 rfl rfl rfl ?_
    refine zg_X7_0 C zi_X7_cost_X7 zm_X7_cost_80 dX7_cost_48 rfl ?_
    refine zr_if_eq (tgt := 56) C dX7_cost_51 (by decide) rfl h (fun h => ?_) (fun h => ?_)
    · refine zr_aln C 0 dX7_cost_56 rfl rfl rfl ?_
      refine zg_X7_12 C zi_X7_cost_X7 zm_X7_cost_30 dX7_cost_57 rfl ?_
      refine zr_iln C 1 dX7_cost_60 rfl rfl rfl ?_
      refine zl_M7 C dX7_cost_61 rfl h (fun h => ?_)
      refine zr_iln C 2 dX7_cost_62 rfl rfl rfl ?_
      refine zz_jn1_W h (fun (v5 : Int32) => zz_ww X (0, 0) (zz_wM a k S4) 92 [(0, .ref (a 0)), (1, .int p1), (2, .int p2), (3, .int p3), (4, .int p4)] [.int v5]) ?_ ?_
      · intro v5 h
        refine zr_is C [1, 2, 3, 4, 5, 0] dX7_cost_92 rfl (by decide) (fun x8 => [(0, .ref (a 0)), (1, .int p1), (2, .int p2), (3, .int p3), (4, .int p4), (5, .int x8)]) h (fun _ => rfl) (fun x8 h => ?_)
        refine zr_aln C 0 dX7_cost_94 rfl rfl rfl ?_
        refine zg_X7_12 C zi_X7_cost_X7 zm_X7_cost_30 dX7_cost_95 rfl ?_
        refine zr_iln C 1 dX7_cost_98 rfl rfl rfl ?_
        refine zr_iln C 2 dX7_cost_99 rfl rfl rfl ?_
        refine zs_M7 C dX7_cost_100 rfl h (fun S9 h => ?_)
        refine zr_aln C 0 dX7_cost_101 rfl rfl rfl ?_
        refine zg_X7_13 C zi_X7_cost_X7 zm_X7_cost_33 dX7_cost_102 rfl ?_
        refine zr_iln C 1 dX7_cost_105 rfl rfl rfl ?_
        refine zr_iln C 3 dX7_cost_106 rfl rfl rfl ?_
        refine zs_M8 C dX7_cost_107 rfl h (fun S10 h => ?_)
        refine zr_aln C 0 dX7_cost_108 rfl rfl rfl ?_
        refine zg_X7_14 C zi_X7_cost_X7 zm_X7_cost_36 dX7_cost_109 rfl ?_
        refine zr_iln C 1 dX7_cost_112 rfl rfl rfl ?_
        refine zr_il C 4 dX7_cost_113 rfl rfl ?_
        refine zs_M9 C dX7_cost_115 rfl h (fun S11 h => ?_)
        refine zr_il C 5 dX7_cost_116 rfl rfl ?_
        obtain ⟨hb, h⟩ := zz_gd_some h
        exact hret x8 S11 118 _ (0, 0) (by decide) (by decide) dX7_cost_118 (zz_bl_nar hb) h
      intro j6 hj7 h
      refine zz_jn1_W h (fun (u12 : Unit) => zz_ww X (0, 0) (zz_wM a k S4) 87 [(0, .ref (a 0)), (1, .int p1), (2, .int p2), (3, .int p3), (4, .int p4)] []) ?_ ?_
      · intro u12 h
        refine zr_ic (v := (1 : Int32)) C dX7_cost_87 (by decide) rfl ?_
        refine zr_goto (tgt := 92) C dX7_cost_88 (by decide) ?_
        exact hj7 ((1 : Int32)) h
      intro j13 hj14 h
      refine zr_icmp_ne (tgt := 87) C dX7_cost_63 (by decide) rfl h (fun h => ?_) (fun h => ?_)
      · exact hj14 () h
      · refine zr_aln C 0 dX7_cost_66 rfl rfl rfl ?_
        refine zg_X7_13 C zi_X7_cost_X7 zm_X7_cost_33 dX7_cost_67 rfl ?_
        refine zr_iln C 1 dX7_cost_70 rfl rfl rfl ?_
        refine zl_M8 C dX7_cost_71 rfl h (fun h => ?_)
        refine zr_iln C 3 dX7_cost_72 rfl rfl rfl ?_
        refine zr_icmp_ne (tgt := 87) C dX7_cost_73 (by decide) rfl h (fun h => ?_) (fun h => ?_)
        · exact hj14 () h
        · refine zr_aln C 0 dX7_cost_76 rfl rfl rfl ?_
          refine zg_X7_14 C zi_X7_cost_X7 zm_X7_cost_36 dX7_cost_77 rfl ?_
          refine zr_iln C 1 dX7_cost_80 rfl rfl rfl ?_
          refine zl_M9 C dX7_cost_81 rfl h (fun h => ?_)
          refine zr_il C 4 dX7_cost_82 rfl rfl ?_
          refine zr_icmp_eq (tgt := 91) C dX7_cost_84 (by decide) rfl h (fun h => ?_) (fun h => ?_)
          · refine zr_ic (v := (0 : Int32)) C dX7_cost_91 (by decide) rfl ?_
            exact hj7 ((0 : Int32)) h
          · exact hj14 () h
    · refine zr_ic (v := (0 : Int32)) C dX7_cost_54 (by decide) rfl ?_
      exact hret ((0 : Int32)) S4 55 _ (0, 0) (by decide) (by decide) dX7_cost_55 rfl h
  intro j2 hj3 h
  refine zz_jn1_W h (fun (u15 : Unit) => zz_ww X (0, 0) (zz_wM a k S) 13 [(0, .ref (a 0)), (1, .int p1), (2, .int p2), (3, .int p3), (4, .int p4)] [.ref (a 0)]) ?_ ?_
  · intro u15 h
    refine zr_ic (v := (1 : Int32)) C dX7_cost_13 (by decide) rfl ?_
    refine zr_goto (tgt := 44) C dX7_cost_14 (by decide) ?_
    exact hj3 ((1 : Int32)) h
  intro j16 hj17 h
  refine zr_if_lt (tgt := 13) C dX7_cost_2 (by decide) rfl h (fun h => ?_) (fun h => ?_)
  · exact hj17 () h
  · refine zr_iln C 1 dX7_cost_5 rfl rfl rfl ?_
    refine zr_aln C 0 dX7_cost_6 rfl rfl rfl ?_
    refine zg_X7_3 C zi_X7_cost_X7 zm_X7_cost_73 dX7_cost_7 rfl ?_
    refine zr_icmp_lt (tgt := 17) C dX7_cost_10 (by decide) rfl h (fun h => ?_) (fun h => ?_)
    · refine zr_iln C 2 dX7_cost_17 rfl rfl rfl ?_
      refine zr_cSir (wf := (zz_wM a k)) (st := [.ref (a 0)]) C (fun l D v hv => zc_X7_isCost N l D k (wf := (zz_wM a k)) S p2 v hv) gX7_cost_X7_isCost rfl zd_X7_isCost ⟨by decide, by decide⟩ ⟨by decide, by decide⟩ rfl (Nat.le_of_ble_eq_true rfl) rfl dX7_cost_18 rfl rfl h (fun x18 _ h => ?_)
      refine zz_jn1_W h (fun (u19 : Unit) => zz_ww X (0, 0) (zz_wM a k S) 43 [(0, .ref (a 0)), (1, .int p1), (2, .int p2), (3, .int p3), (4, .int p4)] [.ref (a 0)]) ?_ ?_
      · intro u19 h
        refine zr_ic (v := (2 : Int32)) C dX7_cost_43 (by decide) rfl ?_
        exact hj3 ((2 : Int32)) h
      intro j20 hj21 h
      refine zr_if_eq (tgt := 43) C dX7_cost_21 (by decide) rfl h (fun h => ?_) (fun h => ?_)
      · exact hj21 () h
      · refine zr_iln C 3 dX7_cost_24 rfl rfl rfl ?_
        refine zr_cSir (wf := (zz_wM a k)) (st := [.ref (a 0)]) C (fun l D v hv => zc_X7_isCost N l D k (wf := (zz_wM a k)) S p3 v hv) gX7_cost_X7_isCost rfl zd_X7_isCost ⟨by decide, by decide⟩ ⟨by decide, by decide⟩ rfl (Nat.le_of_ble_eq_true rfl) rfl dX7_cost_25 rfl rfl h (fun x22 _ h => ?_)
        refine zr_if_eq (tgt := 43) C dX7_cost_28 (by decide) rfl h (fun h => ?_) (fun h => ?_)
        · exact hj21 () h
        · refine zr_il C 4 dX7_cost_31 rfl rfl ?_
          refine zr_cSir (wf := (zz_wM a k)) (st := [.ref (a 0)]) C (fun l D v hv => zc_X7_isCost N l D k (wf := (zz_wM a k)) S p4 v hv) gX7_cost_X7_isCost rfl zd_X7_isCost ⟨by decide, by decide⟩ ⟨by decide, by decide⟩ rfl (Nat.le_of_ble_eq_true rfl) rfl dX7_cost_33 rfl rfl h (fun x23 _ h => ?_)
          refine zr_if_eq (tgt := 43) C dX7_cost_36 (by decide) rfl h (fun h => ?_) (fun h => ?_)
          · exact hj21 () h
          · refine zr_ic (v := (0 : Int32)) C dX7_cost_39 (by decide) rfl ?_
            refine zr_goto (tgt := 44) C dX7_cost_40 (by decide) ?_
            exact hj3 ((0 : Int32)) h
    · exact hj17 () h

def zf_X7_step (N : Nat) (S : zz_St) (p1 : Int32) (p2 : Int32) (p3 : Int32) (p4 : Int32) (p5 : Int32) : Option Int64 := zz_b1 (zf_X7_layerOf N S p4) (fun x1 => zz_let x1 (fun x2 => zz_let ((2 : Int64)) (fun x3 => zz_jn1 (fun (v4 : Int64) => zz_let ((1 : Int32)) (fun x7 => zz_fix2 (fun rc10 (v8 : Int64) (v9 : Int32) => if ((5 : Int32)) ≤ v9 then (zz_gd (zz_in p4 1024) (zz_jn1 (fun (v12 : Int64) => some ((v8 + (zz_gA S 6 p4.toNatClampNeg)) + v12)) (fun j13 => zz_jn1 (fun (u15 : Unit) => j13 ((0 : Int64))) (fun j16 => if p5 = 0 then (j16 ()) else (zz_gd (zz_in p4 1024) (if (zz_ga S 3 p4.toNatClampNeg) = ((-1 : Int32)) then (j16 ()) else (zz_gd (zz_in p4 1024) (if (zz_ga S 3 p4.toNatClampNeg) = p1 then (j16 ()) else (j13 ((100 : Int64))))))))))) else (zz_b1 (zf_X7_neighbour N S p4 v9) (fun x18 => zz_let x18 (fun x19 => zz_jn1 (fun (v20 : Int64) => zz_let (v8 + v20) (fun x23 => zz_let (v9 + (1 : Int32)) (fun x24 => rc10 x23 x24))) (fun j21 => zz_jn1 (fun (u25 : Unit) => j21 ((0 : Int64))) (fun j26 => if x19 = ((-1 : Int32)) then (j26 ()) else (zz_gd (zz_in x19 1024) (if (zz_ga S 3 x19.toNatClampNeg) = ((-1 : Int32)) then (j26 ()) else (zz_gd (zz_in x19 1024) (if (zz_ga S 3 x19.toNatClampNeg) = p1 then (j26 ()) else (zz_gd (zz_in x2 4) (j21 ((zz_ga S 9 x2.toNatClampNeg).toInt64))))))))))))) N v4 x7)) (fun j5 => zz_jn1 (fun (u28 : Unit) => zz_jn1 (fun (v31 : Int32) => zz_gd (zz_in v31 4) (zz_let (x3 + ((zz_ga S 8 v31.toNatClampNeg).toInt64)) (fun x34 => j5 x34))) (fun j32 => if p3 = 0 then (j32 x2) else (zz_b1 (zf_X7_layerOf N S p2) (fun x35 => j32 x35)))) (fun j29 => if p3 = 0 then (j29 ()) else (if p3 = ((5 : Int32)) then (j29 ()) else (zz_jn1 (fun (v36 : Int32) => zz_let v36 (fun x39 => zz_gd (!(((2 : Int32)) == 0)) (zz_jn1 (fun (v40 : Int32) => zz_jn1 (fun (v43 : Int64) => zz_let (x3 + v43) (fun x46 => j5 x46)) (fun j44 => if x39 = v40 then (zz_gd (zz_in x2 4) (j44 ((zz_ga S 7 x2.toNatClampNeg).toInt64))) else (j44 ((0 : Int64))))) (fun j41 => if (x2 - x2 / ((2 : Int32)) * ((2 : Int32))) = 0 then (j41 ((1 : Int32))) else (j41 ((0 : Int32))))))) (fun j37 => zz_jn1 (fun (u47 : Unit) => j37 ((1 : Int32))) (fun j48 => if p3 = ((1 : Int32)) then (j48 ()) else (if p3 = ((4 : Int32)) then (j48 ()) else (j37 ((0 : Int32)))))))))))))
theorem zm_X7_step_c108 : Jvm.Cond.constantLong RX7 108 (2) ∈ wsX7_step := by decide +kernel
theorem zi_X7_step_X7 : ∀ w ∈ wsX70, w ∈ wsX7_step := by decide +kernel
theorem zm_X7_step_26 : Cond.fieldLink RX7 26 "GridRipUpModel" "history" "[J" ∈ wsX7_step := by decide +kernel
theorem zm_X7_step_16 : Cond.fieldLink RX7 16 "GridRipUpModel" "holder" "[I" ∈ wsX7_step := by decide +kernel
theorem zm_X7_step_c114 : Jvm.Cond.constantLong RX7 114 (100) ∈ wsX7_step := by decide +kernel
theorem zm_X7_step_36 : Cond.fieldLink RX7 36 "GridRipUpModel" "near" "[I" ∈ wsX7_step := by decide +kernel
theorem zm_X7_step_33 : Cond.fieldLink RX7 33 "GridRipUpModel" "vias" "[I" ∈ wsX7_step := by decide +kernel
theorem zm_X7_step_30 : Cond.fieldLink RX7 30 "GridRipUpModel" "across" "[I" ∈ wsX7_step := by decide +kernel
theorem zd_X7_step : yX7_step.cls = RX7 ∧ yX7_step.cls ≠ "java/lang/invoke/MethodHandle" ∧ yX7_step.cls ≠ "java/lang/invoke/VarHandle" ∧ (parseMethodDescriptor yX7_step.desc).map (fun d => d.parameters.length) = some 5 := by decide +kernel
set_option maxHeartbeats 4000000 in
set_option maxRecDepth 100000 in
theorem zc_X7_step (N : Nat) (l : Launch) (D : va_G) (k : Nat → ClassId) {a : Nat → Nat} (S : zz_St) (p1 : Int32) (p2 : Int32) (p3 : Int32) (p4 : Int32) (p5 : Int32)  (v : Int64) (h : zf_X7_step N S p1 p2 p3 p4 p5 = some v) : zz_ML l yX7_step wsX7_step ({ frames := 2, cells := 0, slots := 0, locals := 49 } : Room) D k (zz_wM a k) [.ref (a 0), .int p1, .int p2, .int p3, .int p4, .int p5] S (v, S) := by
  refine zz_metL (cc := cX7_step) (nL := 11) (by decide) rfl (Nat.le_of_ble_eq_true rfl) ?_
  intro X C hret
  have C : zz_ok X cX7_step RX7 wsX7_step k 11 ({ frames := 2, cells := 0, slots := 0, locals := 49 } : Room) := C
  unfold zf_X7_step at h
  show zz_ww X (0, 0) (zz_wM a k S) 0 [(0, .ref (a 0)), (1, .int p1), (2, .int p2), (3, .int p3), (4, .int p4), (5, .int p5)] []
  refine zr_aln C 0 dX7_step_0 rfl rfl rfl ?_
  refine zr_il C 4 dX7_step_1 rfl rfl ?_
  refine zr_cVir (wf := (zz_wM a k)) (st := []) C (fun l D v hv => zc_X7_layerOf N l D k (a := a) S p4 v hv) gX7_step_X7_layerOf rfl zd_X7_layerOf ⟨by decide, by decide⟩ ⟨by decide, by decide⟩ rfl ⟨0, 7, _, _, _, zk_M0, rfl⟩ (Nat.le_of_ble_eq_true rfl) rfl dX7_step_3 rfl rfl h (fun x1 _ h => ?_)
  refine zr_is C [1, 2, 3, 4, 5, 6, 0] dX7_step_6 rfl (by decide) (fun x2 => [(0, .ref (a 0)), (1, .int p1), (2, .int p2), (3, .int p3), (4, .int p4), (5, .int p5), (6, .int x2)]) h (fun _ => rfl) (fun x2 h => ?_)
  refine zr_ldc2 (v := (2 : Int64)) C dX7_step_8 zm_X7_step_c108 rfl ?_
  refine zr_ls C [1, 2, 3, 4, 5, 6, 7, 0] dX7_step_11 rfl (by decide) (fun x3 => [(0, .ref (a 0)), (1, .int p1), (2, .int p2), (3, .int p3), (4, .int p4), (5, .int p5), (6, .int x2), (7, .long x3)]) h (fun _ => rfl) (fun x3 h => ?_)
  refine zr_iln C 3 dX7_step_13 rfl rfl rfl ?_
  refine zz_jn1_W h (fun (v4 : Int64) => zz_ww X (0, 0) (zz_wM a k S) 101 [(0, .ref (a 0)), (1, .int p1), (4, .int p4), (5, .int p5), (6, .int x2), (7, .long v4)] []) ?_ ?_
  · intro v4 h
    refine zr_ic (v := (1 : Int32)) C dX7_step_101 (by decide) rfl ?_
    refine zr_is C [1, 2, 3, 4, 5, 6, 0] dX7_step_102 rfl (by decide) (fun x7 => [(0, .ref (a 0)), (1, .int p1), (4, .int p4), (5, .int p5), (6, .int x2), (7, .long v4), (9, .int x7)]) h (fun _ => rfl) (fun x7 h => ?_)
    refine zz_fix2_W (fun (v8 : Int64) (v9 : Int32) => zz_ww X (0, 0) (zz_wM a k S) 104 [(0, .ref (a 0)), (1, .int p1), (4, .int p4), (5, .int p5), (6, .int x2), (7, .long v8), (9, .int v9)] []) ?_ N v4 x7 h
    intro rc10 hr11 v8 v9 h
    refine zr_il C 6 dX7_step_104 rfl rfl ?_
    refine zr_ic (v := (5 : Int32)) C dX7_step_106 (by decide) rfl ?_
    refine zr_icmp_ge (tgt := 171) C dX7_step_107 (by decide) rfl h (fun h => ?_) (fun h => ?_)
    · refine zr_ll C 5 dX7_step_171 rfl rfl ?_
      refine zr_aln C 0 dX7_step_173 rfl rfl rfl ?_
      refine zg_X7_11 C zi_X7_step_X7 zm_X7_step_26 dX7_step_174 rfl ?_
      refine zr_il C 2 dX7_step_177 rfl rfl ?_
      refine zl_M6 C dX7_step_179 rfl h (fun h => ?_)
      refine zr_ladd C dX7_step_180 rfl ?_
      refine zr_il C 3 dX7_step_181 rfl rfl ?_
      refine zz_jn1_W h (fun (v12 : Int64) => zz_ww X (0, 0) (zz_wM a k S) 215 [] [.long v12, .long (v8 + (zz_gA S 6 p4.toNatClampNeg))]) ?_ ?_
      · intro v12 h
        refine zr_ladd C dX7_step_215 rfl ?_
        exact hret ((v8 + (zz_gA S 6 p4.toNatClampNeg)) + v12) S 216 _ (0, 0) (by decide) (by decide) dX7_step_216 (zz_ro h)
      intro j13 hj14 h
      refine zz_jn1_W h (fun (u15 : Unit) => zz_ww X (0, 0) (zz_wM a k S) 214 [] [.long (v8 + (zz_gA S 6 p4.toNatClampNeg))]) ?_ ?_
      · intro u15 h
        refine zr_lc (v := 0) C dX7_step_214 (by decide) rfl ?_
        exact hj14 ((0 : Int64)) h
      intro j16 hj17 h
      refine zr_if_eq (tgt := 214) C dX7_step_183 (by decide) rfl h (fun h => ?_) (fun h => ?_)
      · refine zr_sub [] rfl ?_
        exact hj17 () h
      · refine zr_aln C 0 dX7_step_186 rfl rfl rfl ?_
        refine zg_X7_8 C zi_X7_step_X7 zm_X7_step_16 dX7_step_187 rfl ?_
        refine zr_il C 2 dX7_step_190 rfl rfl ?_
        refine zl_M3 C dX7_step_192 rfl h (fun h => ?_)
        refine zr_ic (v := (-1 : Int32)) C dX7_step_193 (by decide) rfl ?_
        refine zr_icmp_eq (tgt := 214) C dX7_step_194 (by decide) rfl h (fun h => ?_) (fun h => ?_)
        · refine zr_sub [] rfl ?_
          exact hj17 () h
        · refine zr_aln C 0 dX7_step_197 rfl rfl rfl ?_
          refine zg_X7_8 C zi_X7_step_X7 zm_X7_step_16 dX7_step_198 rfl ?_
          refine zr_il C 2 dX7_step_201 rfl rfl ?_
          refine zl_M3 C dX7_step_203 rfl h (fun h => ?_)
          refine zr_iln C 1 dX7_step_204 rfl rfl rfl ?_
          refine zr_icmp_eq (tgt := 214) C dX7_step_205 (by decide) rfl h (fun h => ?_) (fun h => ?_)
          · refine zr_sub [] rfl ?_
            exact hj17 () h
          · refine zr_ldc2 (v := (100 : Int64)) C dX7_step_208 zm_X7_step_c114 rfl ?_
            refine zr_goto (tgt := 215) C dX7_step_211 (by decide) ?_
            refine zr_sub [] rfl ?_
            exact hj14 ((100 : Int64)) h
    · refine zr_aln C 0 dX7_step_110 rfl rfl rfl ?_
      refine zr_il C 2 dX7_step_111 rfl rfl ?_
      refine zr_il C 6 dX7_step_113 rfl rfl ?_
      refine zr_cVir (wf := (zz_wM a k)) (st := []) C (fun l D v hv => zc_X7_neighbour N l D k (a := a) S p4 v9 v hv) gX7_step_X7_neighbour rfl zd_X7_neighbour ⟨by decide, by decide⟩ ⟨by decide, by decide⟩ rfl ⟨0, 7, _, _, _, zk_M0, rfl⟩ (Nat.le_of_ble_eq_true rfl) rfl dX7_step_115 rfl rfl h (fun x18 _ h => ?_)
      refine zr_is C [1, 2, 3, 4, 5, 6, 7, 0] dX7_step_118 rfl (by decide) (fun x19 => [(0, .ref (a 0)), (1, .int p1), (4, .int p4), (5, .int p5), (6, .int x2), (7, .long v8), (9, .int v9), (10, .int x19)]) h (fun _ => rfl) (fun x19 h => ?_)
      refine zr_ll C 5 dX7_step_120 rfl rfl ?_
      refine zr_il C 7 dX7_step_122 rfl rfl ?_
      refine zr_ic (v := (-1 : Int32)) C dX7_step_124 (by decide) rfl ?_
      refine zz_jn1_W h (fun (v20 : Int64) => zz_ww X (0, 0) (zz_wM a k S) 162 [(0, .ref (a 0)), (1, .int p1), (4, .int p4), (5, .int p5), (6, .int x2), (9, .int v9)] [.long v20, .long v8]) ?_ ?_
      · intro v20 h
        refine zr_ladd C dX7_step_162 rfl ?_
        refine zr_ls C [1, 2, 3, 4, 5, 0, 6] dX7_step_163 rfl (by decide) (fun x23 => [(0, .ref (a 0)), (1, .int p1), (4, .int p4), (5, .int p5), (6, .int x2), (7, .long x23), (9, .int v9)]) h (fun _ => rfl) (fun x23 h => ?_)
        refine zr_iinc (v := (1 : Int32)) C 6 [1, 2, 3, 4, 5, 6, 0] dX7_step_165 rfl (by decide) rfl (by decide) (fun x24 => [(0, .ref (a 0)), (1, .int p1), (4, .int p4), (5, .int p5), (6, .int x2), (7, .long x23), (9, .int x24)]) h (fun _ => rfl) (fun x24 h => ?_)
        refine zr_goto (tgt := 104) C dX7_step_168 (by decide) ?_
        exact hr11 x23 x24 h
      intro j21 hj22 h
      refine zz_jn1_W h (fun (u25 : Unit) => zz_ww X (0, 0) (zz_wM a k S) 161 [(0, .ref (a 0)), (1, .int p1), (4, .int p4), (5, .int p5), (6, .int x2), (9, .int v9)] [.long v8]) ?_ ?_
      · intro u25 h
        refine zr_lc (v := 0) C dX7_step_161 (by decide) rfl ?_
        exact hj22 ((0 : Int64)) h
      intro j26 hj27 h
      refine zr_icmp_eq (tgt := 161) C dX7_step_125 (by decide) rfl h (fun h => ?_) (fun h => ?_)
      · refine zr_sub [0, 1, 2, 3, 4, 6] rfl ?_
        exact hj27 () h
      · refine zr_aln C 0 dX7_step_128 rfl rfl rfl ?_
        refine zg_X7_8 C zi_X7_step_X7 zm_X7_step_16 dX7_step_129 rfl ?_
        refine zr_il C 7 dX7_step_132 rfl rfl ?_
        refine zl_M3 C dX7_step_134 rfl h (fun h => ?_)
        refine zr_ic (v := (-1 : Int32)) C dX7_step_135 (by decide) rfl ?_
        refine zr_icmp_eq (tgt := 161) C dX7_step_136 (by decide) rfl h (fun h => ?_) (fun h => ?_)
        · refine zr_sub [0, 1, 2, 3, 4, 6] rfl ?_
          exact hj27 () h
        · refine zr_aln C 0 dX7_step_139 rfl rfl rfl ?_
          refine zg_X7_8 C zi_X7_step_X7 zm_X7_step_16 dX7_step_140 rfl ?_
          refine zr_il C 7 dX7_step_143 rfl rfl ?_
          refine zl_M3 C dX7_step_145 rfl h (fun h => ?_)
          refine zr_iln C 1 dX7_step_146 rfl rfl rfl ?_
          refine zr_icmp_eq (tgt := 161) C dX7_step_147 (by decide) rfl h (fun h => ?_) (fun h => ?_)
          · refine zr_sub [0, 1, 2, 3, 4, 6] rfl ?_
            exact hj27 () h
          · refine zr_aln C 0 dX7_step_150 rfl rfl rfl ?_
            refine zg_X7_14 C zi_X7_step_X7 zm_X7_step_36 dX7_step_151 rfl ?_
            refine zr_il C 4 dX7_step_154 rfl rfl ?_
            refine zl_M9 C dX7_step_156 rfl h (fun h => ?_)
            refine zr_i2l C dX7_step_157 rfl ?_
            refine zr_goto (tgt := 162) C dX7_step_158 (by decide) ?_
            refine zr_sub [0, 1, 2, 3, 4, 6] rfl ?_
            exact hj22 ((zz_ga S 9 x2.toNatClampNeg).toInt64) h
  intro j5 hj6 h
  refine zz_jn1_W h (fun (u28 : Unit) => zz_ww X (0, 0) (zz_wM a k S) 22 [(0, .ref (a 0)), (1, .int p1), (2, .int p2), (3, .int p3), (4, .int p4), (5, .int p5), (6, .int x2), (7, .long x3)] []) ?_ ?_
  · intro u28 h
    refine zr_ll C 7 dX7_step_22 rfl rfl ?_
    refine zr_aln C 0 dX7_step_24 rfl rfl rfl ?_
    refine zg_X7_13 C zi_X7_step_X7 zm_X7_step_33 dX7_step_25 rfl ?_
    refine zr_iln C 3 dX7_step_28 rfl rfl rfl ?_
    refine zz_jn1_W h (fun (v31 : Int32) => zz_ww X (0, 0) (zz_wM a k S) 42 [(0, .ref (a 0)), (1, .int p1), (4, .int p4), (5, .int p5), (6, .int x2)] [.int v31, .ref (a 8), .long x3]) ?_ ?_
    · intro v31 h
      refine zl_M8 C dX7_step_42 rfl h (fun h => ?_)
      refine zr_i2l C dX7_step_43 rfl ?_
      refine zr_ladd C dX7_step_44 rfl ?_
      refine zr_ls C [1, 2, 3, 4, 5, 0] dX7_step_45 rfl (by decide) (fun x34 => [(0, .ref (a 0)), (1, .int p1), (4, .int p4), (5, .int p5), (6, .int x2), (7, .long x34)]) h (fun _ => rfl) (fun x34 h => ?_)
      refine zr_goto (tgt := 101) C dX7_step_47 (by decide) ?_
      exact hj6 x34 h
    intro j32 hj33 h
    refine zr_if_ne (tgt := 37) C dX7_step_29 (by decide) rfl h (fun h => ?_) (fun h => ?_)
    · refine zr_aln C 0 dX7_step_37 rfl rfl rfl ?_
      refine zr_iln C 2 dX7_step_38 rfl rfl rfl ?_
      refine zr_cVir (wf := (zz_wM a k)) (st := [.ref (a 8), .long x3]) C (fun l D v hv => zc_X7_layerOf N l D k (a := a) S p2 v hv) gX7_step_X7_layerOf rfl zd_X7_layerOf ⟨by decide, by decide⟩ ⟨by decide, by decide⟩ rfl ⟨0, 7, _, _, _, zk_M0, rfl⟩ (Nat.le_of_ble_eq_true rfl) rfl dX7_step_39 rfl rfl h (fun x35 _ h => ?_)
      refine zr_sub [0, 1, 4, 5, 6] rfl ?_
      exact hj33 x35 h
    · refine zr_il C 6 dX7_step_32 rfl rfl ?_
      refine zr_goto (tgt := 42) C dX7_step_34 (by decide) ?_
      refine zr_sub [0, 1, 4, 5, 6] rfl ?_
      exact hj33 x2 h
  intro j29 hj30 h
  refine zr_if_eq (tgt := 22) C dX7_step_14 (by decide) rfl h (fun h => ?_) (fun h => ?_)
  · exact hj30 () h
  · refine zr_iln C 3 dX7_step_17 rfl rfl rfl ?_
    refine zr_ic (v := (5 : Int32)) C dX7_step_18 (by decide) rfl ?_
    refine zr_icmp_ne (tgt := 50) C dX7_step_19 (by decide) rfl h (fun h => ?_) (fun h => ?_)
    · refine zr_iln C 3 dX7_step_50 rfl rfl rfl ?_
      refine zr_ic (v := (1 : Int32)) C dX7_step_51 (by decide) rfl ?_
      refine zz_jn1_W h (fun (v36 : Int32) => zz_ww X (0, 0) (zz_wM a k S) 65 [(0, .ref (a 0)), (1, .int p1), (4, .int p4), (5, .int p5), (6, .int x2), (7, .long x3)] [.int v36]) ?_ ?_
      · intro v36 h
        refine zr_is C [1, 2, 3, 4, 5, 6, 0] dX7_step_65 rfl (by decide) (fun x39 => [(0, .ref (a 0)), (1, .int p1), (4, .int p4), (5, .int p5), (6, .int x2), (7, .long x3), (9, .int x39)]) h (fun _ => rfl) (fun x39 h => ?_)
        refine zr_ll C 5 dX7_step_67 rfl rfl ?_
        refine zr_il C 6 dX7_step_69 rfl rfl ?_
        refine zr_il C 4 dX7_step_71 rfl rfl ?_
        refine zr_ic (v := (2 : Int32)) C dX7_step_73 (by decide) rfl ?_
        refine zr_irem C dX7_step_74 rfl h (fun h => ?_)
        refine zz_jn1_W h (fun (v40 : Int32) => zz_ww X (0, 0) (zz_wM a k S) 83 [(0, .ref (a 0)), (1, .int p1), (4, .int p4), (5, .int p5), (6, .int x2)] [.int v40, .int x39, .long x3]) ?_ ?_
        · intro v40 h
          refine zz_jn1_W h (fun (v43 : Int64) => zz_ww X (0, 0) (zz_wM a k S) 98 [(0, .ref (a 0)), (1, .int p1), (4, .int p4), (5, .int p5), (6, .int x2)] [.long v43, .long x3]) ?_ ?_
          · intro v43 h
            refine zr_ladd C dX7_step_98 rfl ?_
            refine zr_ls C [1, 2, 3, 4, 5, 0] dX7_step_99 rfl (by decide) (fun x46 => [(0, .ref (a 0)), (1, .int p1), (4, .int p4), (5, .int p5), (6, .int x2), (7, .long x46)]) h (fun _ => rfl) (fun x46 h => ?_)
            exact hj6 x46 h
          intro j44 hj45 h
          refine zr_icmp_ne (tgt := 97) C dX7_step_83 (by decide) rfl h (fun h => ?_) (fun h => ?_)
          · refine zr_lc (v := 0) C dX7_step_97 (by decide) rfl ?_
            exact hj45 ((0 : Int64)) h
          · refine zr_aln C 0 dX7_step_86 rfl rfl rfl ?_
            refine zg_X7_12 C zi_X7_step_X7 zm_X7_step_30 dX7_step_87 rfl ?_
            refine zr_il C 4 dX7_step_90 rfl rfl ?_
            refine zl_M7 C dX7_step_92 rfl h (fun h => ?_)
            refine zr_i2l C dX7_step_93 rfl ?_
            refine zr_goto (tgt := 98) C dX7_step_94 (by decide) ?_
            exact hj45 ((zz_ga S 7 x2.toNatClampNeg).toInt64) h
        intro j41 hj42 h
        refine zr_if_ne (tgt := 82) C dX7_step_75 (by decide) rfl h (fun h => ?_) (fun h => ?_)
        · refine zr_ic (v := (0 : Int32)) C dX7_step_82 (by decide) rfl ?_
          refine zr_sub [0, 1, 2, 3, 4] rfl ?_
          exact hj42 ((0 : Int32)) h
        · refine zr_ic (v := (1 : Int32)) C dX7_step_78 (by decide) rfl ?_
          refine zr_goto (tgt := 83) C dX7_step_79 (by decide) ?_
          refine zr_sub [0, 1, 2, 3, 4] rfl ?_
          exact hj42 ((1 : Int32)) h
      intro j37 hj38 h
      refine zz_jn1_W h (fun (u47 : Unit) => zz_ww X (0, 0) (zz_wM a k S) 60 [(0, .ref (a 0)), (1, .int p1), (4, .int p4), (5, .int p5), (6, .int x2), (7, .long x3)] []) ?_ ?_
      · intro u47 h
        refine zr_ic (v := (1 : Int32)) C dX7_step_60 (by decide) rfl ?_
        refine zr_goto (tgt := 65) C dX7_step_61 (by decide) ?_
        exact hj38 ((1 : Int32)) h
      intro j48 hj49 h
      refine zr_icmp_eq (tgt := 60) C dX7_step_52 (by decide) rfl h (fun h => ?_) (fun h => ?_)
      · refine zr_sub [0, 1, 4, 5, 6, 7] rfl ?_
        exact hj49 () h
      · refine zr_iln C 3 dX7_step_55 rfl rfl rfl ?_
        refine zr_ic (v := (4 : Int32)) C dX7_step_56 (by decide) rfl ?_
        refine zr_icmp_ne (tgt := 64) C dX7_step_57 (by decide) rfl h (fun h => ?_) (fun h => ?_)
        · refine zr_ic (v := (0 : Int32)) C dX7_step_64 (by decide) rfl ?_
          refine zr_sub [0, 1, 4, 5, 6, 7] rfl ?_
          exact hj38 ((0 : Int32)) h
        · refine zr_sub [0, 1, 4, 5, 6, 7] rfl ?_
          exact hj49 () h
    · exact hj30 () h

def zf_X7_canCome (N : Nat) (S : zz_St) (p1 : Int32) (p2 : Int32) (p3 : Int32) : Option Int32 := zz_jn1 (fun (u1 : Unit) => some ((0 : Int32))) (fun j2 => if p2 = ((-1 : Int32)) then (j2 ()) else (zz_gd (zz_in p2 1024) (if (zz_ga S 5 p2.toNatClampNeg) = 0 then (zz_gd (zz_in p2 1024) (zz_jn1 (fun (v4 : Int32) => zz_let v4 (fun x7 => zz_jn1 (fun (v8 : Int32) => zz_gd (zz_bl v8) (some (v8))) (fun j9 => zz_jn1 (fun (u11 : Unit) => j9 ((1 : Int32))) (fun j12 => if x7 = 0 then (j12 ()) else (zz_jn1 (fun (u14 : Unit) => j9 ((0 : Int32))) (fun j15 => if p3 = 0 then (j15 ()) else (zz_gd (zz_in p2 1024) (if (zz_ga S 4 p2.toNatClampNeg) = 0 then (j12 ()) else (j15 ()))))))))) (fun j5 => zz_jn1 (fun (u17 : Unit) => j5 ((0 : Int32))) (fun j18 => if (zz_ga S 3 p2.toNatClampNeg) = ((-1 : Int32)) then (j18 ()) else (zz_gd (zz_in p2 1024) (if (zz_ga S 3 p2.toNatClampNeg) = p1 then (j18 ()) else (j5 ((1 : Int32))))))))) else (j2 ()))))
theorem zi_X7_canCome_X7 : ∀ w ∈ wsX70, w ∈ wsX7_canCome := by decide +kernel
theorem zm_X7_canCome_23 : Cond.fieldLink RX7 23 "GridRipUpModel" "barred" "[Z" ∈ wsX7_canCome := by decide +kernel
theorem zm_X7_canCome_16 : Cond.fieldLink RX7 16 "GridRipUpModel" "holder" "[I" ∈ wsX7_canCome := by decide +kernel
theorem zm_X7_canCome_19 : Cond.fieldLink RX7 19 "GridRipUpModel" "isPin" "[Z" ∈ wsX7_canCome := by decide +kernel
theorem zd_X7_canCome : yX7_canCome.cls = RX7 ∧ yX7_canCome.cls ≠ "java/lang/invoke/MethodHandle" ∧ yX7_canCome.cls ≠ "java/lang/invoke/VarHandle" ∧ (parseMethodDescriptor yX7_canCome.desc).map (fun d => d.parameters.length) = some 3 := by decide +kernel
set_option maxHeartbeats 4000000 in
set_option maxRecDepth 100000 in
theorem zc_X7_canCome (N : Nat) (l : Launch) (D : va_G) (k : Nat → ClassId) {a : Nat → Nat} (S : zz_St) (p1 : Int32) (p2 : Int32) (p3 : Int32)  (v : Int32) (h : zf_X7_canCome N S p1 p2 p3 = some v) : zz_MI l yX7_canCome wsX7_canCome ({ frames := 0, cells := 0, slots := 0, locals := 0 } : Room) D k (zz_wM a k) [.ref (a 0), .int p1, .int p2, .int p3] S (v, S) := by
  refine zz_metI (cc := cX7_canCome) (nL := 5) (ty := .boolean) (by decide) rfl (Nat.le_of_ble_eq_true rfl) ?_
  intro X C hret
  have C : zz_ok X cX7_canCome RX7 wsX7_canCome k 5 ({ frames := 0, cells := 0, slots := 0, locals := 0 } : Room) := C
  unfold zf_X7_canCome at h
  show zz_ww X (0, 0) (zz_wM a k S) 0 [(0, .ref (a 0)), (1, .int p1), (2, .int p2), (3, .int p3)] []
  refine zr_iln C 2 dX7_canCome_0 rfl rfl rfl ?_
  refine zr_ic (v := (-1 : Int32)) C dX7_canCome_1 (by decide) rfl ?_
  refine zz_jn1_W h (fun (u1 : Unit) => zz_ww X (0, 0) (zz_wM a k S) 14 [] []) ?_ ?_
  · intro u1 h
    refine zr_ic (v := (0 : Int32)) C dX7_canCome_14 (by decide) rfl ?_
    exact hret ((0 : Int32)) S 15 _ (0, 0) (by decide) (by decide) dX7_canCome_15 rfl (zz_ro h)
  intro j2 hj3 h
  refine zr_icmp_eq (tgt := 14) C dX7_canCome_2 (by decide) rfl h (fun h => ?_) (fun h => ?_)
  · refine zr_sub [] rfl ?_
    exact hj3 () h
  · refine zr_aln C 0 dX7_canCome_5 rfl rfl rfl ?_
    refine zg_X7_10 C zi_X7_canCome_X7 zm_X7_canCome_23 dX7_canCome_6 rfl ?_
    refine zr_iln C 2 dX7_canCome_9 rfl rfl rfl ?_
    refine zl_M5 C dX7_canCome_10 rfl h (fun h => ?_)
    refine zr_if_eq (tgt := 16) C dX7_canCome_11 (by decide) rfl h (fun h => ?_) (fun h => ?_)
    · refine zr_aln C 0 dX7_canCome_16 rfl rfl rfl ?_
      refine zg_X7_8 C zi_X7_canCome_X7 zm_X7_canCome_16 dX7_canCome_17 rfl ?_
      refine zr_iln C 2 dX7_canCome_20 rfl rfl rfl ?_
      refine zl_M3 C dX7_canCome_21 rfl h (fun h => ?_)
      refine zr_ic (v := (-1 : Int32)) C dX7_canCome_22 (by decide) rfl ?_
      refine zz_jn1_W h (fun (v4 : Int32) => zz_ww X (0, 0) (zz_wM a k S) 41 [(0, .ref (a 0)), (2, .int p2), (3, .int p3)] [.int v4]) ?_ ?_
      · intro v4 h
        refine zr_is C [1, 2, 3, 0] dX7_canCome_41 rfl (by decide) (fun x7 => [(0, .ref (a 0)), (2, .int p2), (3, .int p3), (4, .int x7)]) h (fun _ => rfl) (fun x7 h => ?_)
        refine zr_il C 3 dX7_canCome_43 rfl rfl ?_
        refine zz_jn1_W h (fun (v8 : Int32) => zz_ww X (0, 0) (zz_wM a k S) 66 [] [.int v8]) ?_ ?_
        · intro v8 h
          obtain ⟨hb, h⟩ := zz_gd_some h
          exact hret v8 S 66 _ (0, 0) (by decide) (by decide) dX7_canCome_66 (zz_bl_nar hb) (zz_ro h)
        intro j9 hj10 h
        refine zz_jn1_W h (fun (u11 : Unit) => zz_ww X (0, 0) (zz_wM a k S) 61 [] []) ?_ ?_
        · intro u11 h
          refine zr_ic (v := (1 : Int32)) C dX7_canCome_61 (by decide) rfl ?_
          refine zr_goto (tgt := 66) C dX7_canCome_62 (by decide) ?_
          exact hj10 ((1 : Int32)) h
        intro j12 hj13 h
        refine zr_if_eq (tgt := 61) C dX7_canCome_45 (by decide) rfl h (fun h => ?_) (fun h => ?_)
        · refine zr_sub [] rfl ?_
          exact hj13 () h
        · refine zr_iln C 2 dX7_canCome_48 rfl rfl rfl ?_
          refine zz_jn1_W h (fun (u14 : Unit) => zz_ww X (0, 0) (zz_wM a k S) 65 [] []) ?_ ?_
          · intro u14 h
            refine zr_ic (v := (0 : Int32)) C dX7_canCome_65 (by decide) rfl ?_
            exact hj10 ((0 : Int32)) h
          intro j15 hj16 h
          refine zr_if_eq (tgt := 65) C dX7_canCome_49 (by decide) rfl h (fun h => ?_) (fun h => ?_)
          · refine zr_sub [] rfl ?_
            exact hj16 () h
          · refine zr_aln C 0 dX7_canCome_52 rfl rfl rfl ?_
            refine zg_X7_9 C zi_X7_canCome_X7 zm_X7_canCome_19 dX7_canCome_53 rfl ?_
            refine zr_iln C 1 dX7_canCome_56 rfl rfl rfl ?_
            refine zl_M4 C dX7_canCome_57 rfl h (fun h => ?_)
            refine zr_if_ne (tgt := 65) C dX7_canCome_58 (by decide) rfl h (fun h => ?_) (fun h => ?_)
            · refine zr_sub [] rfl ?_
              exact hj16 () h
            · refine zr_sub [] rfl ?_
              exact hj13 () h
      intro j5 hj6 h
      refine zz_jn1_W h (fun (u17 : Unit) => zz_ww X (0, 0) (zz_wM a k S) 40 [(0, .ref (a 0)), (2, .int p2), (3, .int p3)] []) ?_ ?_
      · intro u17 h
        refine zr_ic (v := (0 : Int32)) C dX7_canCome_40 (by decide) rfl ?_
        exact hj6 ((0 : Int32)) h
      intro j18 hj19 h
      refine zr_icmp_eq (tgt := 40) C dX7_canCome_23 (by decide) rfl h (fun h => ?_) (fun h => ?_)
      · refine zr_sub [0, 2, 3] rfl ?_
        exact hj19 () h
      · refine zr_aln C 0 dX7_canCome_26 rfl rfl rfl ?_
        refine zg_X7_8 C zi_X7_canCome_X7 zm_X7_canCome_16 dX7_canCome_27 rfl ?_
        refine zr_iln C 2 dX7_canCome_30 rfl rfl rfl ?_
        refine zl_M3 C dX7_canCome_31 rfl h (fun h => ?_)
        refine zr_iln C 1 dX7_canCome_32 rfl rfl rfl ?_
        refine zr_icmp_eq (tgt := 40) C dX7_canCome_33 (by decide) rfl h (fun h => ?_) (fun h => ?_)
        · refine zr_sub [0, 2, 3] rfl ?_
          exact hj19 () h
        · refine zr_ic (v := (1 : Int32)) C dX7_canCome_36 (by decide) rfl ?_
          refine zr_goto (tgt := 41) C dX7_canCome_37 (by decide) ?_
          refine zr_sub [0, 2, 3] rfl ?_
          exact hj6 ((1 : Int32)) h
    · refine zr_sub [] rfl ?_
      exact hj3 () h

def zf_X7_search (N : Nat) (S : zz_St) (p1 : Int32) (p2 : Int32) : Option zz_St := zz_let (((zz_gi S 1) * (zz_gi S 2)) * (zz_gi S 3)) (fun x1 => zz_let ((0 : Int32)) (fun x2 => zz_fix2 (fun rc5 (v3 : Int32) (S4 : zz_St) => if x1 ≤ v3 then (zz_let ((1 : Int32)) (fun x7 => zz_fix2 (fun rc10 (v8 : Int32) (S9 : zz_St) => if v8 = 0 then (some S9) else (zz_let ((0 : Int32)) (fun x12 => zz_let ((0 : Int32)) (fun x13 => zz_fix3 (fun rc17 (v14 : Int32) (v15 : Int32) (S16 : zz_St) => if x1 ≤ v15 then (rc10 v14 S16) else (zz_let ((0 : Int32)) (fun x19 => zz_fix3 (fun rc23 (v20 : Int32) (v21 : Int32) (S22 : zz_St) => zz_jn1 (fun (u25 : Unit) => zz_let (v15 + (1 : Int32)) (fun x28 => rc17 v20 x28 S22)) (fun j26 => if ((6 : Int32)) ≤ v21 then (j26 ()) else (zz_gd (zz_in v15 1024) (if (lg_cmp (zz_gA S22 16 v15.toNatClampNeg) ((0 : Int64))) < 0 then (j26 ()) else (zz_b1 (zf_X7_neighbour N S22 v15 v21) (fun x29 => zz_let x29 (fun x30 => zz_b1 (zf_X7_canCome N S22 p1 x30 p2) (fun x31 => zz_jn2 (fun (v32 : Int32) (S33 : zz_St) => zz_let (v21 + (1 : Int32)) (fun x36 => rc23 v32 x36 S33)) (fun j34 => if x31 = 0 then (j34 v20 S22) else (zz_gd (zz_in v15 1024) (zz_b1 (zf_X7_step N S22 p1 v15 v21 x30 p2) (fun x37 => zz_let ((zz_gA S22 16 v15.toNatClampNeg) + x37) (fun x38 => zz_gd (zz_in x30 1024) (zz_jn1 (fun (u39 : Unit) => zz_gd (zz_in x30 1024) (zz_let (zz_sA S22 16 (vp_updL (zz_gA S22 16) x30.toNatClampNeg x38)) (fun S42 => zz_let ((1 : Int32)) (fun x43 => j34 x43 S42)))) (fun j40 => if (lg_cmp (zz_gA S22 16 x30.toNatClampNeg) ((0 : Int64))) < 0 then (j40 ()) else (zz_gd (zz_in x30 1024) (if 0 < (lg_cmp (zz_gA S22 16 x30.toNatClampNeg) x38) then (j40 ()) else (j34 v20 S22)))))))))))))))))) N v14 x19 S16))) N x12 x13 S9)))) N x7 S4)) else (zz_gd (zz_in v3 1024) (zz_jn1 (fun (v44 : Int64) => zz_gd (zz_in v3 1024) (zz_let (zz_sA S4 16 (vp_updL (zz_gA S4 16) v3.toNatClampNeg v44)) (fun S47 => zz_let (v3 + (1 : Int32)) (fun x48 => rc5 x48 S47)))) (fun j45 => if (zz_ga S4 17 v3.toNatClampNeg) = 0 then (j45 ((-1 : Int64))) else (j45 ((0 : Int64))))))) N x2 S))
theorem zi_X7_search_X7 : ∀ w ∈ wsX70, w ∈ wsX7_search := by decide +kernel
theorem zm_X7_search_66 : Cond.fieldLink RX7 66 "GridRipUpModel" "wide" "I" ∈ wsX7_search := by decide +kernel
theorem zm_X7_search_70 : Cond.fieldLink RX7 70 "GridRipUpModel" "high" "I" ∈ wsX7_search := by decide +kernel
theorem zm_X7_search_73 : Cond.fieldLink RX7 73 "GridRipUpModel" "deep" "I" ∈ wsX7_search := by decide +kernel
theorem zm_X7_search_57 : Cond.fieldLink RX7 57 "GridRipUpModel" "distance" "[J" ∈ wsX7_search := by decide +kernel
theorem zm_X7_search_60 : Cond.fieldLink RX7 60 "GridRipUpModel" "inTree" "[Z" ∈ wsX7_search := by decide +kernel
theorem zm_X7_search_c116 : Jvm.Cond.constantLong RX7 116 (-1) ∈ wsX7_search := by decide +kernel
theorem zd_X7_search : yX7_search.cls = RX7 ∧ yX7_search.cls ≠ "java/lang/invoke/MethodHandle" ∧ yX7_search.cls ≠ "java/lang/invoke/VarHandle" ∧ (parseMethodDescriptor yX7_search.desc).map (fun d => d.parameters.length) = some 2 := by decide +kernel
set_option maxHeartbeats 4000000 in
set_option maxRecDepth 100000 in
theorem zc_X7_search (N : Nat) (l : Launch) (D : va_G) (k : Nat → ClassId) {a : Nat → Nat} (S : zz_St) (p1 : Int32) (p2 : Int32)  (u : zz_St) (h : zf_X7_search N S p1 p2 = some u) : zz_MV l yX7_search wsX7_search ({ frames := 3, cells := 0, slots := 0, locals := 79 } : Room) D k (zz_wM a k) [.ref (a 0), .int p1, .int p2] S u := by
  refine zz_metV (cc := cX7_search) (nL := 10) (by decide) rfl (Nat.le_of_ble_eq_true rfl) ?_
  intro X C hret
  have C : zz_ok X cX7_search RX7 wsX7_search k 10 ({ frames := 3, cells := 0, slots := 0, locals := 79 } : Room) := C
  unfold zf_X7_search at h
  show zz_ww X (0, 0) (zz_wM a k S) 0 [(0, .ref (a 0)), (1, .int p1), (2, .int p2)] []
  refine zr_aln C 0 dX7_search_0 rfl rfl rfl ?_
  refine zg_X7_1 C zi_X7_search_X7 zm_X7_search_66 dX7_search_1 rfl ?_
  refine zr_aln C 0 dX7_search_4 rfl rfl rfl ?_
  refine zg_X7_2 C zi_X7_search_X7 zm_X7_search_70 dX7_search_5 rfl ?_
  refine zr_imul C dX7_search_8 rfl ?_
  refine zr_aln C 0 dX7_search_9 rfl rfl rfl ?_
  refine zg_X7_3 C zi_X7_search_X7 zm_X7_search_73 dX7_search_10 rfl ?_
  refine zr_imul C dX7_search_13 rfl ?_
  refine zr_isn C [1, 2, 3, 0] dX7_search_14 rfl rfl (by decide) (fun x1 => [(0, .ref (a 0)), (1, .int p1), (2, .int p2), (3, .int x1)]) h (fun _ => rfl) (fun x1 h => ?_)
  refine zr_ic (v := (0 : Int32)) C dX7_search_15 (by decide) rfl ?_
  refine zr_is C [1, 2, 3, 4, 0] dX7_search_16 rfl (by decide) (fun x2 => [(0, .ref (a 0)), (1, .int p1), (2, .int p2), (3, .int x1), (4, .int x2)]) h (fun _ => rfl) (fun x2 h => ?_)
  refine zz_fix2_W (fun (v3 : Int32) (S4 : zz_St) => zz_ww X (0, 0) (zz_wM a k S4) 18 [(0, .ref (a 0)), (1, .int p1), (2, .int p2), (3, .int x1), (4, .int v3)] []) ?_ N x2 S h
  intro rc5 hr6 v3 S4 h
  refine zr_il C 4 dX7_search_18 rfl rfl ?_
  refine zr_iln C 3 dX7_search_20 rfl rfl rfl ?_
  refine zr_icmp_ge (tgt := 54) C dX7_search_21 (by decide) rfl h (fun h => ?_) (fun h => ?_)
  · refine zr_ic (v := (1 : Int32)) C dX7_search_54 (by decide) rfl ?_
    refine zr_is C [1, 2, 3, 4, 0] dX7_search_55 rfl (by decide) (fun x7 => [(0, .ref (a 0)), (1, .int p1), (2, .int p2), (3, .int x1), (4, .int x7)]) h (fun _ => rfl) (fun x7 h => ?_)
    refine zz_fix2_W (fun (v8 : Int32) (S9 : zz_St) => zz_ww X (0, 0) (zz_wM a k S9) 57 [(0, .ref (a 0)), (1, .int p1), (2, .int p2), (3, .int x1), (4, .int v8)] []) ?_ N x7 S4 h
    intro rc10 hr11 v8 S9 h
    refine zr_il C 4 dX7_search_57 rfl rfl ?_
    refine zr_if_eq (tgt := 197) C dX7_search_59 (by decide) rfl h (fun h => ?_) (fun h => ?_)
    · exact hret S9 197 _ (0, 0) (by decide) (by decide) dX7_search_197 h
    · refine zr_ic (v := (0 : Int32)) C dX7_search_62 (by decide) rfl ?_
      refine zr_is C [1, 2, 3, 4, 0] dX7_search_63 rfl (by decide) (fun x12 => [(0, .ref (a 0)), (1, .int p1), (2, .int p2), (3, .int x1), (4, .int x12)]) h (fun _ => rfl) (fun x12 h => ?_)
      refine zr_ic (v := (0 : Int32)) C dX7_search_65 (by decide) rfl ?_
      refine zr_is C [1, 2, 3, 4, 5, 0] dX7_search_66 rfl (by decide) (fun x13 => [(0, .ref (a 0)), (1, .int p1), (2, .int p2), (3, .int x1), (4, .int x12), (5, .int x13)]) h (fun _ => rfl) (fun x13 h => ?_)
      refine zz_fix3_W (fun (v14 : Int32) (v15 : Int32) (S16 : zz_St) => zz_ww X (0, 0) (zz_wM a k S16) 68 [(0, .ref (a 0)), (1, .int p1), (2, .int p2), (3, .int x1), (4, .int v14), (5, .int v15)] []) ?_ N x12 x13 S9 h
      intro rc17 hr18 v14 v15 S16 h
      refine zr_il C 5 dX7_search_68 rfl rfl ?_
      refine zr_iln C 3 dX7_search_70 rfl rfl rfl ?_
      refine zr_icmp_ge (tgt := 194) C dX7_search_71 (by decide) rfl h (fun h => ?_) (fun h => ?_)
      · refine zr_goto (tgt := 57) C dX7_search_194 (by decide) ?_
        refine zr_sub [0, 1, 2, 3, 4] rfl ?_
        exact hr11 v14 S16 h
      · refine zr_ic (v := (0 : Int32)) C dX7_search_74 (by decide) rfl ?_
        refine zr_is C [1, 2, 3, 4, 5, 6, 0] dX7_search_75 rfl (by decide) (fun x19 => [(0, .ref (a 0)), (1, .int p1), (2, .int p2), (3, .int x1), (4, .int v14), (5, .int v15), (6, .int x19)]) h (fun _ => rfl) (fun x19 h => ?_)
        refine zz_fix3_W (fun (v20 : Int32) (v21 : Int32) (S22 : zz_St) => zz_ww X (0, 0) (zz_wM a k S22) 77 [(0, .ref (a 0)), (1, .int p1), (2, .int p2), (3, .int x1), (4, .int v20), (5, .int v15), (6, .int v21)] []) ?_ N v14 x19 S16 h
        intro rc23 hr24 v20 v21 S22 h
        refine zr_il C 6 dX7_search_77 rfl rfl ?_
        refine zr_bi (v := (6 : Int32)) C dX7_search_79 (by decide) rfl ?_
        refine zz_jn1_W h (fun (u25 : Unit) => zz_ww X (0, 0) (zz_wM a k S22) 188 [(0, .ref (a 0)), (1, .int p1), (2, .int p2), (3, .int x1), (4, .int v20), (5, .int v15)] []) ?_ ?_
        · intro u25 h
          refine zr_iinc (v := (1 : Int32)) C 5 [1, 2, 3, 4, 5, 0] dX7_search_188 rfl (by decide) rfl (by decide) (fun x28 => [(0, .ref (a 0)), (1, .int p1), (2, .int p2), (3, .int x1), (4, .int v20), (5, .int x28)]) h (fun _ => rfl) (fun x28 h => ?_)
          refine zr_goto (tgt := 68) C dX7_search_191 (by decide) ?_
          exact hr18 v20 x28 S22 h
        intro j26 hj27 h
        refine zr_icmp_ge (tgt := 188) C dX7_search_81 (by decide) rfl h (fun h => ?_) (fun h => ?_)
        · refine zr_sub [0, 1, 2, 3, 4, 5] rfl ?_
          exact hj27 () h
        · refine zr_aln C 0 dX7_search_84 rfl rfl rfl ?_
          refine zg_X7_22 C zi_X7_search_X7 zm_X7_search_57 dX7_search_85 rfl ?_
          refine zr_il C 5 dX7_search_88 rfl rfl ?_
          refine zl_M16 C dX7_search_90 rfl h (fun h => ?_)
          refine zr_lc (v := 0) C dX7_search_91 (by decide) rfl ?_
          refine zr_lcmp C dX7_search_92 rfl ?_
          refine zr_if_lt (tgt := 188) C dX7_search_93 (by decide) rfl h (fun h => ?_) (fun h => ?_)
          · refine zr_sub [0, 1, 2, 3, 4, 5] rfl ?_
            exact hj27 () h
          · refine zr_aln C 0 dX7_search_96 rfl rfl rfl ?_
            refine zr_il C 5 dX7_search_97 rfl rfl ?_
            refine zr_il C 6 dX7_search_99 rfl rfl ?_
            refine zr_cVir (wf := (zz_wM a k)) (st := []) C (fun l D v hv => zc_X7_neighbour N l D k (a := a) S22 v15 v21 v hv) gX7_search_X7_neighbour rfl zd_X7_neighbour ⟨by decide, by decide⟩ ⟨by decide, by decide⟩ rfl ⟨0, 7, _, _, _, zk_M0, rfl⟩ (Nat.le_of_ble_eq_true rfl) rfl dX7_search_101 rfl rfl h (fun x29 _ h => ?_)
            refine zr_is C [1, 2, 3, 4, 5, 6, 7, 0] dX7_search_104 rfl (by decide) (fun x30 => [(0, .ref (a 0)), (1, .int p1), (2, .int p2), (3, .int x1), (4, .int v20), (5, .int v15), (6, .int v21), (7, .int x30)]) h (fun _ => rfl) (fun x30 h => ?_)
            refine zr_aln C 0 dX7_search_106 rfl rfl rfl ?_
            refine zr_iln C 1 dX7_search_107 rfl rfl rfl ?_
            refine zr_il C 7 dX7_search_108 rfl rfl ?_
            refine zr_iln C 2 dX7_search_110 rfl rfl rfl ?_
            refine zr_cVir (wf := (zz_wM a k)) (st := []) C (fun l D v hv => zc_X7_canCome N l D k (a := a) S22 p1 x30 p2 v hv) gX7_search_X7_canCome rfl zd_X7_canCome ⟨by decide, by decide⟩ ⟨by decide, by decide⟩ rfl ⟨0, 7, _, _, _, zk_M0, rfl⟩ (Nat.le_of_ble_eq_true rfl) rfl dX7_search_111 rfl rfl h (fun x31 _ h => ?_)
            refine zz_jn2_W h (fun (v32 : Int32) (S33 : zz_St) => zz_ww X (0, 0) (zz_wM a k S33) 182 [(0, .ref (a 0)), (1, .int p1), (2, .int p2), (3, .int x1), (4, .int v32), (5, .int v15), (6, .int v21)] []) ?_ ?_
            · intro v32 S33 h
              refine zr_iinc (v := (1 : Int32)) C 6 [1, 2, 3, 4, 5, 6, 0] dX7_search_182 rfl (by decide) rfl (by decide) (fun x36 => [(0, .ref (a 0)), (1, .int p1), (2, .int p2), (3, .int x1), (4, .int v32), (5, .int v15), (6, .int x36)]) h (fun _ => rfl) (fun x36 h => ?_)
              refine zr_goto (tgt := 77) C dX7_search_185 (by decide) ?_
              exact hr24 v32 x36 S33 h
            intro j34 hj35 h
            refine zr_if_ne (tgt := 120) C dX7_search_114 (by decide) rfl h (fun h => ?_) (fun h => ?_)
            · refine zr_aln C 0 dX7_search_120 rfl rfl rfl ?_
              refine zg_X7_22 C zi_X7_search_X7 zm_X7_search_57 dX7_search_121 rfl ?_
              refine zr_il C 5 dX7_search_124 rfl rfl ?_
              refine zl_M16 C dX7_search_126 rfl h (fun h => ?_)
              refine zr_aln C 0 dX7_search_127 rfl rfl rfl ?_
              refine zr_iln C 1 dX7_search_128 rfl rfl rfl ?_
              refine zr_il C 5 dX7_search_129 rfl rfl ?_
              refine zr_il C 6 dX7_search_131 rfl rfl ?_
              refine zr_il C 7 dX7_search_133 rfl rfl ?_
              refine zr_iln C 2 dX7_search_135 rfl rfl rfl ?_
              refine zr_cVlr (wf := (zz_wM a k)) (st := [.long (zz_gA S22 16 v15.toNatClampNeg)]) C (fun l D v hv => zc_X7_step N l D k (a := a) S22 p1 v15 v21 x30 p2 v hv) gX7_search_X7_step rfl zd_X7_step ⟨by decide, by decide⟩ ⟨by decide, by decide⟩ rfl ⟨0, 7, _, _, _, zk_M0, rfl⟩ (Nat.le_of_ble_eq_true rfl) rfl dX7_search_136 rfl rfl h (fun x37 _ h => ?_)
              refine zr_ladd C dX7_search_139 rfl ?_
              refine zr_ls C [1, 2, 3, 4, 5, 6, 7, 8, 0] dX7_search_140 rfl (by decide) (fun x38 => [(0, .ref (a 0)), (1, .int p1), (2, .int p2), (3, .int x1), (4, .int v20), (5, .int v15), (6, .int v21), (7, .int x30), (8, .long x38)]) h (fun _ => rfl) (fun x38 h => ?_)
              refine zr_aln C 0 dX7_search_142 rfl rfl rfl ?_
              refine zg_X7_22 C zi_X7_search_X7 zm_X7_search_57 dX7_search_143 rfl ?_
              refine zr_il C 7 dX7_search_146 rfl rfl ?_
              refine zl_M16 C dX7_search_148 rfl h (fun h => ?_)
              refine zr_lc (v := 0) C dX7_search_149 (by decide) rfl ?_
              refine zr_lcmp C dX7_search_150 rfl ?_
              refine zz_jn1_W h (fun (u39 : Unit) => zz_ww X (0, 0) (zz_wM a k S22) 170 [(0, .ref (a 0)), (1, .int p1), (2, .int p2), (3, .int x1), (5, .int v15), (6, .int v21), (7, .int x30), (8, .long x38)] []) ?_ ?_
              · intro u39 h
                refine zr_aln C 0 dX7_search_170 rfl rfl rfl ?_
                refine zg_X7_22 C zi_X7_search_X7 zm_X7_search_57 dX7_search_171 rfl ?_
                refine zr_il C 6 dX7_search_174 rfl rfl ?_
                refine zr_ll C 7 dX7_search_176 rfl rfl ?_
                refine zs_M16 C dX7_search_178 rfl h (fun S42 h => ?_)
                refine zr_ic (v := (1 : Int32)) C dX7_search_179 (by decide) rfl ?_
                refine zr_is C [1, 2, 3, 4, 0, 5, 6, 7, 8] dX7_search_180 rfl (by decide) (fun x43 => [(0, .ref (a 0)), (1, .int p1), (2, .int p2), (3, .int x1), (4, .int x43), (5, .int v15), (6, .int v21), (7, .int x30), (8, .long x38)]) h (fun _ => rfl) (fun x43 h => ?_)
                refine zr_sub [0, 1, 2, 3, 4, 5, 6] rfl ?_
                exact hj35 x43 S42 h
              intro j40 hj41 h
              refine zr_if_lt (tgt := 170) C dX7_search_151 (by decide) rfl h (fun h => ?_) (fun h => ?_)
              · refine zr_sub [0, 1, 2, 3, 5, 6, 7, 8] rfl ?_
                exact hj41 () h
              · refine zr_aln C 0 dX7_search_154 rfl rfl rfl ?_
                refine zg_X7_22 C zi_X7_search_X7 zm_X7_search_57 dX7_search_155 rfl ?_
                refine zr_il C 7 dX7_search_158 rfl rfl ?_
                refine zl_M16 C dX7_search_160 rfl h (fun h => ?_)
                refine zr_ll C 8 dX7_search_161 rfl rfl ?_
                refine zr_lcmp C dX7_search_163 rfl ?_
                refine zr_if_gt (tgt := 170) C dX7_search_164 (by decide) rfl h (fun h => ?_) (fun h => ?_)
                · refine zr_sub [0, 1, 2, 3, 5, 6, 7, 8] rfl ?_
                  exact hj41 () h
                · refine zr_goto (tgt := 182) C dX7_search_167 (by decide) ?_
                  refine zr_sub [0, 1, 2, 3, 4, 5, 6] rfl ?_
                  exact hj35 v20 S22 h
            · refine zr_goto (tgt := 182) C dX7_search_117 (by decide) ?_
              refine zr_sub [0, 1, 2, 3, 4, 5, 6] rfl ?_
              exact hj35 v20 S22 h
  · refine zr_aln C 0 dX7_search_24 rfl rfl rfl ?_
    refine zg_X7_22 C zi_X7_search_X7 zm_X7_search_57 dX7_search_25 rfl ?_
    refine zr_il C 4 dX7_search_28 rfl rfl ?_
    refine zr_aln C 0 dX7_search_30 rfl rfl rfl ?_
    refine zg_X7_23 C zi_X7_search_X7 zm_X7_search_60 dX7_search_31 rfl ?_
    refine zr_il C 4 dX7_search_34 rfl rfl ?_
    refine zl_M17 C dX7_search_36 rfl h (fun h => ?_)
    refine zz_jn1_W h (fun (v44 : Int64) => zz_ww X (0, 0) (zz_wM a k S4) 47 [(0, .ref (a 0)), (1, .int p1), (2, .int p2), (3, .int x1), (4, .int v3)] [.long v44, .int v3, .ref (a 16)]) ?_ ?_
    · intro v44 h
      refine zs_M16 C dX7_search_47 rfl h (fun S47 h => ?_)
      refine zr_iinc (v := (1 : Int32)) C 4 [1, 2, 3, 4, 0] dX7_search_48 rfl (by decide) rfl (by decide) (fun x48 => [(0, .ref (a 0)), (1, .int p1), (2, .int p2), (3, .int x1), (4, .int x48)]) h (fun _ => rfl) (fun x48 h => ?_)
      refine zr_goto (tgt := 18) C dX7_search_51 (by decide) ?_
      exact hr6 x48 S47 h
    intro j45 hj46 h
    refine zr_if_eq (tgt := 44) C dX7_search_37 (by decide) rfl h (fun h => ?_) (fun h => ?_)
    · refine zr_ldc2 (v := (-1 : Int64)) C dX7_search_44 zm_X7_search_c116 rfl ?_
      exact hj46 ((-1 : Int64)) h
    · refine zr_lc (v := 0) C dX7_search_40 (by decide) rfl ?_
      refine zr_goto (tgt := 47) C dX7_search_41 (by decide) ?_
      exact hj46 ((0 : Int64)) h

def zf_X7_nextPin (N : Nat) (S : zz_St) (p1 : Int32) : Option Int32 := zz_let ((-1 : Int32)) (fun x1 => zz_let (((5 : Int32)) * p1) (fun x2 => zz_fix2 (fun rc5 (v3 : Int32) (v4 : Int32) => zz_gd (zz_in p1 12) (if ((((5 : Int32)) * p1) + (zz_ga S 1 p1.toNatClampNeg)) ≤ v4 then (some (v3)) else (zz_gd (zz_in v4 60) (zz_let (zz_ga S 2 v4.toNatClampNeg) (fun x7 => zz_gd (zz_in x7 1024) (zz_jn1 (fun (v8 : Int32) => zz_let (v4 + (1 : Int32)) (fun x11 => rc5 v8 x11)) (fun j9 => if (zz_ga S 17 x7.toNatClampNeg) = 0 then (zz_gd (zz_in x7 1024) (if 0 ≤ (lg_cmp (zz_gA S 16 x7.toNatClampNeg) ((0 : Int64))) then (zz_jn1 (fun (v12 : Int32) => zz_let v12 (fun x15 => j9 x15)) (fun j13 => zz_jn1 (fun (u16 : Unit) => j13 x7) (fun j17 => if v3 = ((-1 : Int32)) then (j17 ()) else (zz_gd (zz_in x7 1024) (zz_gd (zz_in v3 1024) (if 0 ≤ (lg_cmp (zz_gA S 16 x7.toNatClampNeg) (zz_gA S 16 v3.toNatClampNeg)) then (j13 v3) else (j17 ()))))))) else (j9 v3))) else (j9 v3)))))))) N x1 x2))
theorem zi_X7_nextPin_X7 : ∀ w ∈ wsX70, w ∈ wsX7_nextPin := by decide +kernel
theorem zm_X7_nextPin_7 : Cond.fieldLink RX7 7 "GridRipUpModel" "pinCount" "[I" ∈ wsX7_nextPin := by decide +kernel
theorem zm_X7_nextPin_13 : Cond.fieldLink RX7 13 "GridRipUpModel" "pins" "[I" ∈ wsX7_nextPin := by decide +kernel
theorem zm_X7_nextPin_60 : Cond.fieldLink RX7 60 "GridRipUpModel" "inTree" "[Z" ∈ wsX7_nextPin := by decide +kernel
theorem zm_X7_nextPin_57 : Cond.fieldLink RX7 57 "GridRipUpModel" "distance" "[J" ∈ wsX7_nextPin := by decide +kernel
theorem zd_X7_nextPin : yX7_nextPin.cls = RX7 ∧ yX7_nextPin.cls ≠ "java/lang/invoke/MethodHandle" ∧ yX7_nextPin.cls ≠ "java/lang/invoke/VarHandle" ∧ (parseMethodDescriptor yX7_nextPin.desc).map (fun d => d.parameters.length) = some 1 := by decide +kernel
set_option maxHeartbeats 4000000 in
set_option maxRecDepth 100000 in
theorem zc_X7_nextPin (N : Nat) (l : Launch) (D : va_G) (k : Nat → ClassId) {a : Nat → Nat} (S : zz_St) (p1 : Int32)  (v : Int32) (h : zf_X7_nextPin N S p1 = some v) : zz_MI l yX7_nextPin wsX7_nextPin ({ frames := 0, cells := 0, slots := 0, locals := 0 } : Room) D k (zz_wM a k) [.ref (a 0), .int p1] S (v, S) := by
  refine zz_metI (cc := cX7_nextPin) (nL := 5) (ty := .int) (by decide) rfl (Nat.le_of_ble_eq_true rfl) ?_
  intro X C hret
  have C : zz_ok X cX7_nextPin RX7 wsX7_nextPin k 5 ({ frames := 0, cells := 0, slots := 0, locals := 0 } : Room) := C
  unfold zf_X7_nextPin at h
  show zz_ww X (0, 0) (zz_wM a k S) 0 [(0, .ref (a 0)), (1, .int p1)] []
  refine zr_ic (v := (-1 : Int32)) C dX7_nextPin_0 (by decide) rfl ?_
  refine zr_isn C [1, 2, 0] dX7_nextPin_1 rfl rfl (by decide) (fun x1 => [(0, .ref (a 0)), (1, .int p1), (2, .int x1)]) h (fun _ => rfl) (fun x1 h => ?_)
  refine zr_ic (v := (5 : Int32)) C dX7_nextPin_2 (by decide) rfl ?_
  refine zr_iln C 1 dX7_nextPin_3 rfl rfl rfl ?_
  refine zr_imul C dX7_nextPin_4 rfl ?_
  refine zr_isn C [1, 2, 3, 0] dX7_nextPin_5 rfl rfl (by decide) (fun x2 => [(0, .ref (a 0)), (1, .int p1), (2, .int x1), (3, .int x2)]) h (fun _ => rfl) (fun x2 h => ?_)
  refine zz_fix2_W (fun (v3 : Int32) (v4 : Int32) => zz_ww X (0, 0) (zz_wM a k S) 6 [(0, .ref (a 0)), (1, .int p1), (2, .int v3), (3, .int v4)] []) ?_ N x1 x2 h
  intro rc5 hr6 v3 v4 h
  refine zr_iln C 3 dX7_nextPin_6 rfl rfl rfl ?_
  refine zr_ic (v := (5 : Int32)) C dX7_nextPin_7 (by decide) rfl ?_
  refine zr_iln C 1 dX7_nextPin_8 rfl rfl rfl ?_
  refine zr_imul C dX7_nextPin_9 rfl ?_
  refine zr_aln C 0 dX7_nextPin_10 rfl rfl rfl ?_
  refine zg_X7_6 C zi_X7_nextPin_X7 zm_X7_nextPin_7 dX7_nextPin_11 rfl ?_
  refine zr_iln C 1 dX7_nextPin_14 rfl rfl rfl ?_
  refine zl_M1 C dX7_nextPin_15 rfl h (fun h => ?_)
  refine zr_iadd C dX7_nextPin_16 rfl ?_
  refine zr_icmp_ge (tgt := 88) C dX7_nextPin_17 (by decide) rfl h (fun h => ?_) (fun h => ?_)
  · refine zr_iln C 2 dX7_nextPin_88 rfl rfl rfl ?_
    exact hret v3 S 89 _ (0, 0) (by decide) (by decide) dX7_nextPin_89 rfl (zz_ro h)
  · refine zr_aln C 0 dX7_nextPin_20 rfl rfl rfl ?_
    refine zg_X7_7 C zi_X7_nextPin_X7 zm_X7_nextPin_13 dX7_nextPin_21 rfl ?_
    refine zr_iln C 3 dX7_nextPin_24 rfl rfl rfl ?_
    refine zl_M2 C dX7_nextPin_25 rfl h (fun h => ?_)
    refine zr_is C [1, 2, 3, 4, 0] dX7_nextPin_26 rfl (by decide) (fun x7 => [(0, .ref (a 0)), (1, .int p1), (2, .int v3), (3, .int v4), (4, .int x7)]) h (fun _ => rfl) (fun x7 h => ?_)
    refine zr_aln C 0 dX7_nextPin_28 rfl rfl rfl ?_
    refine zg_X7_23 C zi_X7_nextPin_X7 zm_X7_nextPin_60 dX7_nextPin_29 rfl ?_
    refine zr_il C 4 dX7_nextPin_32 rfl rfl ?_
    refine zl_M17 C dX7_nextPin_34 rfl h (fun h => ?_)
    refine zz_jn1_W h (fun (v8 : Int32) => zz_ww X (0, 0) (zz_wM a k S) 82 [(0, .ref (a 0)), (1, .int p1), (2, .int v8), (3, .int v4)] []) ?_ ?_
    · intro v8 h
      refine zr_iinc (v := (1 : Int32)) C 3 [1, 2, 3, 0] dX7_nextPin_82 rfl (by decide) rfl (by decide) (fun x11 => [(0, .ref (a 0)), (1, .int p1), (2, .int v8), (3, .int x11)]) h (fun _ => rfl) (fun x11 h => ?_)
      refine zr_goto (tgt := 6) C dX7_nextPin_85 (by decide) ?_
      exact hr6 v8 x11 h
    intro j9 hj10 h
    refine zr_if_ne (tgt := 82) C dX7_nextPin_35 (by decide) rfl h (fun h => ?_) (fun h => ?_)
    · refine zr_sub [0, 1, 2, 3] rfl ?_
      exact hj10 v3 h
    · refine zr_aln C 0 dX7_nextPin_38 rfl rfl rfl ?_
      refine zg_X7_22 C zi_X7_nextPin_X7 zm_X7_nextPin_57 dX7_nextPin_39 rfl ?_
      refine zr_il C 4 dX7_nextPin_42 rfl rfl ?_
      refine zl_M16 C dX7_nextPin_44 rfl h (fun h => ?_)
      refine zr_lc (v := 0) C dX7_nextPin_45 (by decide) rfl ?_
      refine zr_lcmp C dX7_nextPin_46 rfl ?_
      refine zr_if_ge (tgt := 53) C dX7_nextPin_47 (by decide) rfl h (fun h => ?_) (fun h => ?_)
      · refine zr_iln C 2 dX7_nextPin_53 rfl rfl rfl ?_
        refine zr_ic (v := (-1 : Int32)) C dX7_nextPin_54 (by decide) rfl ?_
        refine zz_jn1_W h (fun (v12 : Int32) => zz_ww X (0, 0) (zz_wM a k S) 81 [(0, .ref (a 0)), (1, .int p1), (3, .int v4)] [.int v12]) ?_ ?_
        · intro v12 h
          refine zr_isn C [1, 2, 0, 3] dX7_nextPin_81 rfl rfl (by decide) (fun x15 => [(0, .ref (a 0)), (1, .int p1), (2, .int x15), (3, .int v4)]) h (fun _ => rfl) (fun x15 h => ?_)
          exact hj10 x15 h
        intro j13 hj14 h
        refine zz_jn1_W h (fun (u16 : Unit) => zz_ww X (0, 0) (zz_wM a k S) 75 [(0, .ref (a 0)), (1, .int p1), (3, .int v4), (4, .int x7)] []) ?_ ?_
        · intro u16 h
          refine zr_il C 3 dX7_nextPin_75 rfl rfl ?_
          refine zr_goto (tgt := 81) C dX7_nextPin_77 (by decide) ?_
          refine zr_sub [0, 1, 2] rfl ?_
          exact hj14 x7 h
        intro j17 hj18 h
        refine zr_icmp_eq (tgt := 75) C dX7_nextPin_55 (by decide) rfl h (fun h => ?_) (fun h => ?_)
        · refine zr_sub [0, 1, 3, 4] rfl ?_
          exact hj18 () h
        · refine zr_aln C 0 dX7_nextPin_58 rfl rfl rfl ?_
          refine zg_X7_22 C zi_X7_nextPin_X7 zm_X7_nextPin_57 dX7_nextPin_59 rfl ?_
          refine zr_il C 4 dX7_nextPin_62 rfl rfl ?_
          refine zl_M16 C dX7_nextPin_64 rfl h (fun h => ?_)
          refine zr_aln C 0 dX7_nextPin_65 rfl rfl rfl ?_
          refine zg_X7_22 C zi_X7_nextPin_X7 zm_X7_nextPin_57 dX7_nextPin_66 rfl ?_
          refine zr_iln C 2 dX7_nextPin_69 rfl rfl rfl ?_
          refine zl_M16 C dX7_nextPin_70 rfl h (fun h => ?_)
          refine zr_lcmp C dX7_nextPin_71 rfl ?_
          refine zr_if_ge (tgt := 80) C dX7_nextPin_72 (by decide) rfl h (fun h => ?_) (fun h => ?_)
          · refine zr_iln C 2 dX7_nextPin_80 rfl rfl rfl ?_
            refine zr_sub [0, 1, 3] rfl ?_
            exact hj14 v3 h
          · refine zr_sub [0, 1, 3, 4] rfl ?_
            exact hj18 () h
      · refine zr_goto (tgt := 82) C dX7_nextPin_50 (by decide) ?_
        refine zr_sub [0, 1, 2, 3] rfl ?_
        exact hj10 v3 h


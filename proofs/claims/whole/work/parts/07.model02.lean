def zf_X7_opposite (N : Nat) (S : zz_St) (p1 : Int32) : Option Int32 := some (((5 : Int32)) - p1)
theorem zd_X7_opposite : yX7_opposite.cls = RX7 ∧ yX7_opposite.cls ≠ "java/lang/invoke/MethodHandle" ∧ yX7_opposite.cls ≠ "java/lang/invoke/VarHandle" ∧ (parseMethodDescriptor yX7_opposite.desc).map (fun d => d.parameters.length) = some 1 := by decide +kernel
set_option maxHeartbeats 4000000 in
set_option maxRecDepth 100000 in
theorem zc_X7_opposite (N : Nat) (l : Launch) (D : va_G) (k : Nat → ClassId) {a : Nat → Nat} (S : zz_St) (p1 : Int32)  (v : Int32) (h : zf_X7_opposite N S p1 = some v) : zz_MI l yX7_opposite wsX7_opposite ({ frames := 0, cells := 0, slots := 0, locals := 0 } : Room) D k (zz_wM a k) [.ref (a 0), .int p1] S (v, S) := by
  refine zz_metI (cc := cX7_opposite) (nL := 2) (ty := .int) (by decide) rfl (Nat.le_of_ble_eq_true rfl) ?_
  intro X C hret
  have C : zz_ok X cX7_opposite RX7 wsX7_opposite k 2 ({ frames := 0, cells := 0, slots := 0, locals := 0 } : Room) := C
  unfold zf_X7_opposite at h
  show zz_ww X (0, 0) (zz_wM a k S) 0 [(0, .ref (a 0)), (1, .int p1)] []
  refine zr_ic (v := (5 : Int32)) C dX7_opposite_0 (by decide) rfl ?_
  refine zr_iln C 1 dX7_opposite_1 rfl rfl rfl ?_
  refine zr_isub C dX7_opposite_2 rfl ?_
  exact hret (((5 : Int32)) - p1) S 3 _ (0, 0) (by decide) (by decide) dX7_opposite_3 rfl (zz_ro h)

def zf_X7_back (N : Nat) (S : zz_St) (p1 : Int32) (p2 : Int32) (p3 : Int32) : Option Int32 := zz_let ((0 : Int32)) (fun x1 => zz_fix1 (fun rc3 (v2 : Int32) => if ((6 : Int32)) ≤ v2 then (some ((-1 : Int32))) else (zz_b1 (zf_X7_neighbour N S p2 v2) (fun x5 => zz_let x5 (fun x6 => zz_jn1 (fun (u7 : Unit) => zz_let (v2 + (1 : Int32)) (fun x10 => rc3 x10)) (fun j8 => if x6 = ((-1 : Int32)) then (j8 ()) else (zz_gd (zz_in x6 1024) (if (lg_cmp (zz_gA S 16 x6.toNatClampNeg) ((0 : Int64))) < 0 then (j8 ()) else (zz_gd (zz_in x6 1024) (zz_b1 (zf_X7_opposite N S v2) (fun x11 => zz_b1 (zf_X7_step N S p1 x6 x11 p2 p3) (fun x12 => zz_gd (zz_in p2 1024) (if (lg_cmp ((zz_gA S 16 x6.toNatClampNeg) + x12) (zz_gA S 16 p2.toNatClampNeg)) = 0 then (some (x6)) else (j8 ()))))))))))))) N x1)
theorem zi_X7_back_X7 : ∀ w ∈ wsX70, w ∈ wsX7_back := by decide +kernel
theorem zm_X7_back_57 : Cond.fieldLink RX7 57 "GridRipUpModel" "distance" "[J" ∈ wsX7_back := by decide +kernel
theorem zd_X7_back : yX7_back.cls = RX7 ∧ yX7_back.cls ≠ "java/lang/invoke/MethodHandle" ∧ yX7_back.cls ≠ "java/lang/invoke/VarHandle" ∧ (parseMethodDescriptor yX7_back.desc).map (fun d => d.parameters.length) = some 3 := by decide +kernel
set_option maxHeartbeats 4000000 in
set_option maxRecDepth 100000 in
theorem zc_X7_back (N : Nat) (l : Launch) (D : va_G) (k : Nat → ClassId) {a : Nat → Nat} (S : zz_St) (p1 : Int32) (p2 : Int32) (p3 : Int32)  (v : Int32) (h : zf_X7_back N S p1 p2 p3 = some v) : zz_MI l yX7_back wsX7_back ({ frames := 3, cells := 0, slots := 0, locals := 79 } : Room) D k (zz_wM a k) [.ref (a 0), .int p1, .int p2, .int p3] S (v, S) := by
  refine zz_metI (cc := cX7_back) (nL := 6) (ty := .int) (by decide) rfl (Nat.le_of_ble_eq_true rfl) ?_
  intro X C hret
  have C : zz_ok X cX7_back RX7 wsX7_back k 6 ({ frames := 3, cells := 0, slots := 0, locals := 79 } : Room) := C
  unfold zf_X7_back at h
  show zz_ww X (0, 0) (zz_wM a k S) 0 [(0, .ref (a 0)), (1, .int p1), (2, .int p2), (3, .int p3)] []
  refine zr_ic (v := (0 : Int32)) C dX7_back_0 (by decide) rfl ?_
  refine zr_is C [1, 2, 3, 4, 0] dX7_back_1 rfl (by decide) (fun x1 => [(0, .ref (a 0)), (1, .int p1), (2, .int p2), (3, .int p3), (4, .int x1)]) h (fun _ => rfl) (fun x1 h => ?_)
  refine zz_fix1_W (fun (v2 : Int32) => zz_ww X (0, 0) (zz_wM a k S) 3 [(0, .ref (a 0)), (1, .int p1), (2, .int p2), (3, .int p3), (4, .int v2)] []) ?_ N x1 h
  intro rc3 hr4 v2 h
  refine zr_il C 4 dX7_back_3 rfl rfl ?_
  refine zr_bi (v := (6 : Int32)) C dX7_back_5 (by decide) rfl ?_
  refine zr_icmp_ge (tgt := 79) C dX7_back_7 (by decide) rfl h (fun h => ?_) (fun h => ?_)
  · refine zr_ic (v := (-1 : Int32)) C dX7_back_79 (by decide) rfl ?_
    exact hret ((-1 : Int32)) S 80 _ (0, 0) (by decide) (by decide) dX7_back_80 rfl (zz_ro h)
  · refine zr_aln C 0 dX7_back_10 rfl rfl rfl ?_
    refine zr_iln C 2 dX7_back_11 rfl rfl rfl ?_
    refine zr_il C 4 dX7_back_12 rfl rfl ?_
    refine zr_cVir (wf := (zz_wM a k)) (st := []) C (fun l D v hv => zc_X7_neighbour N l D k (a := a) S p2 v2 v hv) gX7_back_X7_neighbour rfl zd_X7_neighbour ⟨by decide, by decide⟩ ⟨by decide, by decide⟩ rfl ⟨0, 7, _, _, _, zk_M0, rfl⟩ (Nat.le_of_ble_eq_true rfl) rfl dX7_back_14 rfl rfl h (fun x5 _ h => ?_)
    refine zr_is C [1, 2, 3, 4, 5, 0] dX7_back_17 rfl (by decide) (fun x6 => [(0, .ref (a 0)), (1, .int p1), (2, .int p2), (3, .int p3), (4, .int v2), (5, .int x6)]) h (fun _ => rfl) (fun x6 h => ?_)
    refine zr_il C 5 dX7_back_19 rfl rfl ?_
    refine zr_ic (v := (-1 : Int32)) C dX7_back_21 (by decide) rfl ?_
    refine zz_jn1_W h (fun (u7 : Unit) => zz_ww X (0, 0) (zz_wM a k S) 73 [(0, .ref (a 0)), (1, .int p1), (2, .int p2), (3, .int p3), (4, .int v2)] []) ?_ ?_
    · intro u7 h
      refine zr_iinc (v := (1 : Int32)) C 4 [1, 2, 3, 4, 0] dX7_back_73 rfl (by decide) rfl (by decide) (fun x10 => [(0, .ref (a 0)), (1, .int p1), (2, .int p2), (3, .int p3), (4, .int x10)]) h (fun _ => rfl) (fun x10 h => ?_)
      refine zr_goto (tgt := 3) C dX7_back_76 (by decide) ?_
      exact hr4 x10 h
    intro j8 hj9 h
    refine zr_icmp_eq (tgt := 73) C dX7_back_22 (by decide) rfl h (fun h => ?_) (fun h => ?_)
    · refine zr_sub [0, 1, 2, 3, 4] rfl ?_
      exact hj9 () h
    · refine zr_aln C 0 dX7_back_25 rfl rfl rfl ?_
      refine zg_X7_22 C zi_X7_back_X7 zm_X7_back_57 dX7_back_26 rfl ?_
      refine zr_il C 5 dX7_back_29 rfl rfl ?_
      refine zl_M16 C dX7_back_31 rfl h (fun h => ?_)
      refine zr_lc (v := 0) C dX7_back_32 (by decide) rfl ?_
      refine zr_lcmp C dX7_back_33 rfl ?_
      refine zr_if_lt (tgt := 73) C dX7_back_34 (by decide) rfl h (fun h => ?_) (fun h => ?_)
      · refine zr_sub [0, 1, 2, 3, 4] rfl ?_
        exact hj9 () h
      · refine zr_aln C 0 dX7_back_37 rfl rfl rfl ?_
        refine zg_X7_22 C zi_X7_back_X7 zm_X7_back_57 dX7_back_38 rfl ?_
        refine zr_il C 5 dX7_back_41 rfl rfl ?_
        refine zl_M16 C dX7_back_43 rfl h (fun h => ?_)
        refine zr_aln C 0 dX7_back_44 rfl rfl rfl ?_
        refine zr_iln C 1 dX7_back_45 rfl rfl rfl ?_
        refine zr_il C 5 dX7_back_46 rfl rfl ?_
        refine zr_aln C 0 dX7_back_48 rfl rfl rfl ?_
        refine zr_il C 4 dX7_back_49 rfl rfl ?_
        refine zr_cVir (wf := (zz_wM a k)) (st := [.int x6, .int p1, .ref (a 0), .long (zz_gA S 16 x6.toNatClampNeg)]) C (fun l D v hv => zc_X7_opposite N l D k (a := a) S v2 v hv) gX7_back_X7_opposite rfl zd_X7_opposite ⟨by decide, by decide⟩ ⟨by decide, by decide⟩ rfl ⟨0, 7, _, _, _, zk_M0, rfl⟩ (Nat.le_of_ble_eq_true rfl) rfl dX7_back_51 rfl rfl h (fun x11 _ h => ?_)
        refine zr_iln C 2 dX7_back_54 rfl rfl rfl ?_
        refine zr_iln C 3 dX7_back_55 rfl rfl rfl ?_
        refine zr_cVlr (wf := (zz_wM a k)) (st := [.long (zz_gA S 16 x6.toNatClampNeg)]) C (fun l D v hv => zc_X7_step N l D k (a := a) S p1 x6 x11 p2 p3 v hv) gX7_back_X7_step rfl zd_X7_step ⟨by decide, by decide⟩ ⟨by decide, by decide⟩ rfl ⟨0, 7, _, _, _, zk_M0, rfl⟩ (Nat.le_of_ble_eq_true rfl) rfl dX7_back_56 rfl rfl h (fun x12 _ h => ?_)
        refine zr_ladd C dX7_back_59 rfl ?_
        refine zr_aln C 0 dX7_back_60 rfl rfl rfl ?_
        refine zg_X7_22 C zi_X7_back_X7 zm_X7_back_57 dX7_back_61 rfl ?_
        refine zr_iln C 2 dX7_back_64 rfl rfl rfl ?_
        refine zl_M16 C dX7_back_65 rfl h (fun h => ?_)
        refine zr_lcmp C dX7_back_66 rfl ?_
        refine zr_if_ne (tgt := 73) C dX7_back_67 (by decide) rfl h (fun h => ?_) (fun h => ?_)
        · refine zr_sub [0, 1, 2, 3, 4] rfl ?_
          exact hj9 () h
        · refine zr_il C 5 dX7_back_70 rfl rfl ?_
          exact hret x6 S 72 _ (0, 0) (by decide) (by decide) dX7_back_72 rfl (zz_ro h)

def zf_X7_findBlocks (N : Nat) (S : zz_St) (p1 : Int32) : Option zz_St := zz_let (((zz_gi S 1) * (zz_gi S 2)) * (zz_gi S 3)) (fun x1 => zz_gd (zz_in p1 12) (zz_let (zz_sa S 15 (upd (zz_ga S 15) p1.toNatClampNeg ((0 : Int32)))) (fun S2 => zz_let ((0 : Int32)) (fun x3 => zz_fix2 (fun rc6 (v4 : Int32) (S5 : zz_St) => if x1 ≤ v4 then (some S5) else (zz_let ((0 : Int32)) (fun x8 => zz_fix2 (fun rc11 (v9 : Int32) (S10 : zz_St) => zz_jn1 (fun (u13 : Unit) => zz_let (v4 + (1 : Int32)) (fun x16 => rc6 x16 S10)) (fun j14 => if ((6 : Int32)) ≤ v9 then (j14 ()) else (zz_gd (zz_in v4 1024) (if (lg_cmp (zz_gA S10 16 v4.toNatClampNeg) ((0 : Int64))) < 0 then (j14 ()) else (zz_b1 (zf_X7_neighbour N S10 v4 v9) (fun x17 => zz_let x17 (fun x18 => zz_jn1 (fun (S19 : zz_St) => zz_let (v9 + (1 : Int32)) (fun x22 => rc11 x22 S19)) (fun j20 => if x18 = ((-1 : Int32)) then (j20 S10) else (zz_gd (zz_in x18 1024) (if (zz_ga S10 3 x18.toNatClampNeg) = ((-1 : Int32)) then (j20 S10) else (zz_gd (zz_in x18 1024) (if (zz_ga S10 3 x18.toNatClampNeg) = p1 then (j20 S10) else (zz_gd (zz_in p1 12) (zz_gd (zz_in x18 1024) (zz_gd (zz_in p1 12) (zz_let (zz_sa S10 15 (upd (zz_ga S10 15) p1.toNatClampNeg ((zz_ga S10 15 p1.toNatClampNeg) ||| (((1 : Int32)) <<< ((zz_ga S10 3 x18.toNatClampNeg) &&& 31))))) (fun S23 => j20 S23))))))))))))))))) N x8 S5))) N x3 S2))))
theorem zi_X7_findBlocks_X7 : ∀ w ∈ wsX70, w ∈ wsX7_findBlocks := by decide +kernel
theorem zm_X7_findBlocks_66 : Cond.fieldLink RX7 66 "GridRipUpModel" "wide" "I" ∈ wsX7_findBlocks := by decide +kernel
theorem zm_X7_findBlocks_70 : Cond.fieldLink RX7 70 "GridRipUpModel" "high" "I" ∈ wsX7_findBlocks := by decide +kernel
theorem zm_X7_findBlocks_73 : Cond.fieldLink RX7 73 "GridRipUpModel" "deep" "I" ∈ wsX7_findBlocks := by decide +kernel
theorem zm_X7_findBlocks_54 : Cond.fieldLink RX7 54 "GridRipUpModel" "blocks" "[I" ∈ wsX7_findBlocks := by decide +kernel
theorem zm_X7_findBlocks_57 : Cond.fieldLink RX7 57 "GridRipUpModel" "distance" "[J" ∈ wsX7_findBlocks := by decide +kernel
theorem zm_X7_findBlocks_16 : Cond.fieldLink RX7 16 "GridRipUpModel" "holder" "[I" ∈ wsX7_findBlocks := by decide +kernel
theorem zd_X7_findBlocks : yX7_findBlocks.cls = RX7 ∧ yX7_findBlocks.cls ≠ "java/lang/invoke/MethodHandle" ∧ yX7_findBlocks.cls ≠ "java/lang/invoke/VarHandle" ∧ (parseMethodDescriptor yX7_findBlocks.desc).map (fun d => d.parameters.length) = some 1 := by decide +kernel
set_option maxHeartbeats 4000000 in
set_option maxRecDepth 100000 in
theorem zc_X7_findBlocks (N : Nat) (l : Launch) (D : va_G) (k : Nat → ClassId) {a : Nat → Nat} (S : zz_St) (p1 : Int32)  (u : zz_St) (h : zf_X7_findBlocks N S p1 = some u) : zz_MV l yX7_findBlocks wsX7_findBlocks ({ frames := 2, cells := 0, slots := 0, locals := 49 } : Room) D k (zz_wM a k) [.ref (a 0), .int p1] S u := by
  refine zz_metV (cc := cX7_findBlocks) (nL := 6) (by decide) rfl (Nat.le_of_ble_eq_true rfl) ?_
  intro X C hret
  have C : zz_ok X cX7_findBlocks RX7 wsX7_findBlocks k 6 ({ frames := 2, cells := 0, slots := 0, locals := 49 } : Room) := C
  unfold zf_X7_findBlocks at h
  show zz_ww X (0, 0) (zz_wM a k S) 0 [(0, .ref (a 0)), (1, .int p1)] []
  refine zr_aln C 0 dX7_findBlocks_0 rfl rfl rfl ?_
  refine zg_X7_1 C zi_X7_findBlocks_X7 zm_X7_findBlocks_66 dX7_findBlocks_1 rfl ?_
  refine zr_aln C 0 dX7_findBlocks_4 rfl rfl rfl ?_
  refine zg_X7_2 C zi_X7_findBlocks_X7 zm_X7_findBlocks_70 dX7_findBlocks_5 rfl ?_
  refine zr_imul C dX7_findBlocks_8 rfl ?_
  refine zr_aln C 0 dX7_findBlocks_9 rfl rfl rfl ?_
  refine zg_X7_3 C zi_X7_findBlocks_X7 zm_X7_findBlocks_73 dX7_findBlocks_10 rfl ?_
  refine zr_imul C dX7_findBlocks_13 rfl ?_
  refine zr_isn C [1, 2, 0] dX7_findBlocks_14 rfl rfl (by decide) (fun x1 => [(0, .ref (a 0)), (1, .int p1), (2, .int x1)]) h (fun _ => rfl) (fun x1 h => ?_)
  refine zr_aln C 0 dX7_findBlocks_15 rfl rfl rfl ?_
  refine zg_X7_20 C zi_X7_findBlocks_X7 zm_X7_findBlocks_54 dX7_findBlocks_16 rfl ?_
  refine zr_iln C 1 dX7_findBlocks_19 rfl rfl rfl ?_
  refine zr_ic (v := (0 : Int32)) C dX7_findBlocks_20 (by decide) rfl ?_
  refine zs_M15 C dX7_findBlocks_21 rfl h (fun S2 h => ?_)
  refine zr_ic (v := (0 : Int32)) C dX7_findBlocks_22 (by decide) rfl ?_
  refine zr_isn C [1, 2, 3, 0] dX7_findBlocks_23 rfl rfl (by decide) (fun x3 => [(0, .ref (a 0)), (1, .int p1), (2, .int x1), (3, .int x3)]) h (fun _ => rfl) (fun x3 h => ?_)
  refine zz_fix2_W (fun (v4 : Int32) (S5 : zz_St) => zz_ww X (0, 0) (zz_wM a k S5) 24 [(0, .ref (a 0)), (1, .int p1), (2, .int x1), (3, .int v4)] []) ?_ N x3 S2 h
  intro rc6 hr7 v4 S5 h
  refine zr_iln C 3 dX7_findBlocks_24 rfl rfl rfl ?_
  refine zr_iln C 2 dX7_findBlocks_25 rfl rfl rfl ?_
  refine zr_icmp_ge (tgt := 121) C dX7_findBlocks_26 (by decide) rfl h (fun h => ?_) (fun h => ?_)
  · exact hret S5 121 _ (0, 0) (by decide) (by decide) dX7_findBlocks_121 h
  · refine zr_ic (v := (0 : Int32)) C dX7_findBlocks_29 (by decide) rfl ?_
    refine zr_is C [1, 2, 3, 4, 0] dX7_findBlocks_30 rfl (by decide) (fun x8 => [(0, .ref (a 0)), (1, .int p1), (2, .int x1), (3, .int v4), (4, .int x8)]) h (fun _ => rfl) (fun x8 h => ?_)
    refine zz_fix2_W (fun (v9 : Int32) (S10 : zz_St) => zz_ww X (0, 0) (zz_wM a k S10) 32 [(0, .ref (a 0)), (1, .int p1), (2, .int x1), (3, .int v4), (4, .int v9)] []) ?_ N x8 S5 h
    intro rc11 hr12 v9 S10 h
    refine zr_il C 4 dX7_findBlocks_32 rfl rfl ?_
    refine zr_bi (v := (6 : Int32)) C dX7_findBlocks_34 (by decide) rfl ?_
    refine zz_jn1_W h (fun (u13 : Unit) => zz_ww X (0, 0) (zz_wM a k S10) 115 [(0, .ref (a 0)), (1, .int p1), (2, .int x1), (3, .int v4)] []) ?_ ?_
    · intro u13 h
      refine zr_iinc (v := (1 : Int32)) C 3 [1, 2, 3, 0] dX7_findBlocks_115 rfl (by decide) rfl (by decide) (fun x16 => [(0, .ref (a 0)), (1, .int p1), (2, .int x1), (3, .int x16)]) h (fun _ => rfl) (fun x16 h => ?_)
      refine zr_goto (tgt := 24) C dX7_findBlocks_118 (by decide) ?_
      exact hr7 x16 S10 h
    intro j14 hj15 h
    refine zr_icmp_ge (tgt := 115) C dX7_findBlocks_36 (by decide) rfl h (fun h => ?_) (fun h => ?_)
    · refine zr_sub [0, 1, 2, 3] rfl ?_
      exact hj15 () h
    · refine zr_aln C 0 dX7_findBlocks_39 rfl rfl rfl ?_
      refine zg_X7_22 C zi_X7_findBlocks_X7 zm_X7_findBlocks_57 dX7_findBlocks_40 rfl ?_
      refine zr_iln C 3 dX7_findBlocks_43 rfl rfl rfl ?_
      refine zl_M16 C dX7_findBlocks_44 rfl h (fun h => ?_)
      refine zr_lc (v := 0) C dX7_findBlocks_45 (by decide) rfl ?_
      refine zr_lcmp C dX7_findBlocks_46 rfl ?_
      refine zr_if_lt (tgt := 115) C dX7_findBlocks_47 (by decide) rfl h (fun h => ?_) (fun h => ?_)
      · refine zr_sub [0, 1, 2, 3] rfl ?_
        exact hj15 () h
      · refine zr_aln C 0 dX7_findBlocks_50 rfl rfl rfl ?_
        refine zr_iln C 3 dX7_findBlocks_51 rfl rfl rfl ?_
        refine zr_il C 4 dX7_findBlocks_52 rfl rfl ?_
        refine zr_cVir (wf := (zz_wM a k)) (st := []) C (fun l D v hv => zc_X7_neighbour N l D k (a := a) S10 v4 v9 v hv) gX7_findBlocks_X7_neighbour rfl zd_X7_neighbour ⟨by decide, by decide⟩ ⟨by decide, by decide⟩ rfl ⟨0, 7, _, _, _, zk_M0, rfl⟩ (Nat.le_of_ble_eq_true rfl) rfl dX7_findBlocks_54 rfl rfl h (fun x17 _ h => ?_)
        refine zr_is C [1, 2, 3, 4, 5, 0] dX7_findBlocks_57 rfl (by decide) (fun x18 => [(0, .ref (a 0)), (1, .int p1), (2, .int x1), (3, .int v4), (4, .int v9), (5, .int x18)]) h (fun _ => rfl) (fun x18 h => ?_)
        refine zr_il C 5 dX7_findBlocks_59 rfl rfl ?_
        refine zr_ic (v := (-1 : Int32)) C dX7_findBlocks_61 (by decide) rfl ?_
        refine zz_jn1_W h (fun (S19 : zz_St) => zz_ww X (0, 0) (zz_wM a k S19) 109 [(0, .ref (a 0)), (1, .int p1), (2, .int x1), (3, .int v4), (4, .int v9)] []) ?_ ?_
        · intro S19 h
          refine zr_iinc (v := (1 : Int32)) C 4 [1, 2, 3, 4, 0] dX7_findBlocks_109 rfl (by decide) rfl (by decide) (fun x22 => [(0, .ref (a 0)), (1, .int p1), (2, .int x1), (3, .int v4), (4, .int x22)]) h (fun _ => rfl) (fun x22 h => ?_)
          refine zr_goto (tgt := 32) C dX7_findBlocks_112 (by decide) ?_
          exact hr12 x22 S19 h
        intro j20 hj21 h
        refine zr_icmp_eq (tgt := 109) C dX7_findBlocks_62 (by decide) rfl h (fun h => ?_) (fun h => ?_)
        · refine zr_sub [0, 1, 2, 3, 4] rfl ?_
          exact hj21 S10 h
        · refine zr_aln C 0 dX7_findBlocks_65 rfl rfl rfl ?_
          refine zg_X7_8 C zi_X7_findBlocks_X7 zm_X7_findBlocks_16 dX7_findBlocks_66 rfl ?_
          refine zr_il C 5 dX7_findBlocks_69 rfl rfl ?_
          refine zl_M3 C dX7_findBlocks_71 rfl h (fun h => ?_)
          refine zr_ic (v := (-1 : Int32)) C dX7_findBlocks_72 (by decide) rfl ?_
          refine zr_icmp_eq (tgt := 109) C dX7_findBlocks_73 (by decide) rfl h (fun h => ?_) (fun h => ?_)
          · refine zr_sub [0, 1, 2, 3, 4] rfl ?_
            exact hj21 S10 h
          · refine zr_aln C 0 dX7_findBlocks_76 rfl rfl rfl ?_
            refine zg_X7_8 C zi_X7_findBlocks_X7 zm_X7_findBlocks_16 dX7_findBlocks_77 rfl ?_
            refine zr_il C 5 dX7_findBlocks_80 rfl rfl ?_
            refine zl_M3 C dX7_findBlocks_82 rfl h (fun h => ?_)
            refine zr_iln C 1 dX7_findBlocks_83 rfl rfl rfl ?_
            refine zr_icmp_eq (tgt := 109) C dX7_findBlocks_84 (by decide) rfl h (fun h => ?_) (fun h => ?_)
            · refine zr_sub [0, 1, 2, 3, 4] rfl ?_
              exact hj21 S10 h
            · refine zr_aln C 0 dX7_findBlocks_87 rfl rfl rfl ?_
              refine zg_X7_20 C zi_X7_findBlocks_X7 zm_X7_findBlocks_54 dX7_findBlocks_88 rfl ?_
              refine zr_iln C 1 dX7_findBlocks_91 rfl rfl rfl ?_
              refine zr_aln C 0 dX7_findBlocks_92 rfl rfl rfl ?_
              refine zg_X7_20 C zi_X7_findBlocks_X7 zm_X7_findBlocks_54 dX7_findBlocks_93 rfl ?_
              refine zr_iln C 1 dX7_findBlocks_96 rfl rfl rfl ?_
              refine zl_M15 C dX7_findBlocks_97 rfl h (fun h => ?_)
              refine zr_ic (v := (1 : Int32)) C dX7_findBlocks_98 (by decide) rfl ?_
              refine zr_aln C 0 dX7_findBlocks_99 rfl rfl rfl ?_
              refine zg_X7_8 C zi_X7_findBlocks_X7 zm_X7_findBlocks_16 dX7_findBlocks_100 rfl ?_
              refine zr_il C 5 dX7_findBlocks_103 rfl rfl ?_
              refine zl_M3 C dX7_findBlocks_105 rfl h (fun h => ?_)
              refine zr_ishl C dX7_findBlocks_106 rfl ?_
              refine zr_ior C dX7_findBlocks_107 rfl ?_
              refine zs_M15 C dX7_findBlocks_108 rfl h (fun S23 h => ?_)
              refine zr_sub [0, 1, 2, 3, 4] rfl ?_
              exact hj21 S23 h

def zf_X7_hasAll (N : Nat) (S : zz_St) (p1 : Int32) : Option Int32 := zz_let ((1 : Int32)) (fun x1 => zz_let (((5 : Int32)) * p1) (fun x2 => zz_fix2 (fun rc5 (v3 : Int32) (v4 : Int32) => zz_gd (zz_in p1 12) (if ((((5 : Int32)) * p1) + (zz_ga S 1 p1.toNatClampNeg)) ≤ v4 then (zz_gd (zz_bl v3) (some (v3))) else (zz_jn1 (fun (v7 : Int32) => zz_let v7 (fun x10 => zz_let (v4 + (1 : Int32)) (fun x11 => rc5 x10 x11))) (fun j8 => zz_jn1 (fun (u12 : Unit) => j8 ((0 : Int32))) (fun j13 => if v3 = 0 then (j13 ()) else (zz_gd (zz_in v4 60) (zz_gd (zz_in (zz_ga S 2 v4.toNatClampNeg) 1024) (if (zz_ga S 17 (zz_ga S 2 v4.toNatClampNeg).toNatClampNeg) = 0 then (j13 ()) else (j8 ((1 : Int32))))))))))) N x1 x2))
theorem zi_X7_hasAll_X7 : ∀ w ∈ wsX70, w ∈ wsX7_hasAll := by decide +kernel
theorem zm_X7_hasAll_7 : Cond.fieldLink RX7 7 "GridRipUpModel" "pinCount" "[I" ∈ wsX7_hasAll := by decide +kernel
theorem zm_X7_hasAll_60 : Cond.fieldLink RX7 60 "GridRipUpModel" "inTree" "[Z" ∈ wsX7_hasAll := by decide +kernel
theorem zm_X7_hasAll_13 : Cond.fieldLink RX7 13 "GridRipUpModel" "pins" "[I" ∈ wsX7_hasAll := by decide +kernel
theorem zd_X7_hasAll : yX7_hasAll.cls = RX7 ∧ yX7_hasAll.cls ≠ "java/lang/invoke/MethodHandle" ∧ yX7_hasAll.cls ≠ "java/lang/invoke/VarHandle" ∧ (parseMethodDescriptor yX7_hasAll.desc).map (fun d => d.parameters.length) = some 1 := by decide +kernel
set_option maxHeartbeats 4000000 in
set_option maxRecDepth 100000 in
theorem zc_X7_hasAll (N : Nat) (l : Launch) (D : va_G) (k : Nat → ClassId) {a : Nat → Nat} (S : zz_St) (p1 : Int32)  (v : Int32) (h : zf_X7_hasAll N S p1 = some v) : zz_MI l yX7_hasAll wsX7_hasAll ({ frames := 0, cells := 0, slots := 0, locals := 0 } : Room) D k (zz_wM a k) [.ref (a 0), .int p1] S (v, S) := by
  refine zz_metI (cc := cX7_hasAll) (nL := 4) (ty := .boolean) (by decide) rfl (Nat.le_of_ble_eq_true rfl) ?_
  intro X C hret
  have C : zz_ok X cX7_hasAll RX7 wsX7_hasAll k 4 ({ frames := 0, cells := 0, slots := 0, locals := 0 } : Room) := C
  unfold zf_X7_hasAll at h
  show zz_ww X (0, 0) (zz_wM a k S) 0 [(0, .ref (a 0)), (1, .int p1)] []
  refine zr_ic (v := (1 : Int32)) C dX7_hasAll_0 (by decide) rfl ?_
  refine zr_isn C [1, 2, 0] dX7_hasAll_1 rfl rfl (by decide) (fun x1 => [(0, .ref (a 0)), (1, .int p1), (2, .int x1)]) h (fun _ => rfl) (fun x1 h => ?_)
  refine zr_ic (v := (5 : Int32)) C dX7_hasAll_2 (by decide) rfl ?_
  refine zr_iln C 1 dX7_hasAll_3 rfl rfl rfl ?_
  refine zr_imul C dX7_hasAll_4 rfl ?_
  refine zr_isn C [1, 2, 3, 0] dX7_hasAll_5 rfl rfl (by decide) (fun x2 => [(0, .ref (a 0)), (1, .int p1), (2, .int x1), (3, .int x2)]) h (fun _ => rfl) (fun x2 h => ?_)
  refine zz_fix2_W (fun (v3 : Int32) (v4 : Int32) => zz_ww X (0, 0) (zz_wM a k S) 6 [(0, .ref (a 0)), (1, .int p1), (2, .int v3), (3, .int v4)] []) ?_ N x1 x2 h
  intro rc5 hr6 v3 v4 h
  refine zr_iln C 3 dX7_hasAll_6 rfl rfl rfl ?_
  refine zr_ic (v := (5 : Int32)) C dX7_hasAll_7 (by decide) rfl ?_
  refine zr_iln C 1 dX7_hasAll_8 rfl rfl rfl ?_
  refine zr_imul C dX7_hasAll_9 rfl ?_
  refine zr_aln C 0 dX7_hasAll_10 rfl rfl rfl ?_
  refine zg_X7_6 C zi_X7_hasAll_X7 zm_X7_hasAll_7 dX7_hasAll_11 rfl ?_
  refine zr_iln C 1 dX7_hasAll_14 rfl rfl rfl ?_
  refine zl_M1 C dX7_hasAll_15 rfl h (fun h => ?_)
  refine zr_iadd C dX7_hasAll_16 rfl ?_
  refine zr_icmp_ge (tgt := 50) C dX7_hasAll_17 (by decide) rfl h (fun h => ?_) (fun h => ?_)
  · refine zr_iln C 2 dX7_hasAll_50 rfl rfl rfl ?_
    obtain ⟨hb, h⟩ := zz_gd_some h
    exact hret v3 S 51 _ (0, 0) (by decide) (by decide) dX7_hasAll_51 (zz_bl_nar hb) (zz_ro h)
  · refine zr_iln C 2 dX7_hasAll_20 rfl rfl rfl ?_
    refine zz_jn1_W h (fun (v7 : Int32) => zz_ww X (0, 0) (zz_wM a k S) 43 [(0, .ref (a 0)), (1, .int p1), (3, .int v4)] [.int v7]) ?_ ?_
    · intro v7 h
      refine zr_isn C [1, 2, 0, 3] dX7_hasAll_43 rfl rfl (by decide) (fun x10 => [(0, .ref (a 0)), (1, .int p1), (2, .int x10), (3, .int v4)]) h (fun _ => rfl) (fun x10 h => ?_)
      refine zr_iinc (v := (1 : Int32)) C 3 [1, 2, 3, 0] dX7_hasAll_44 rfl (by decide) rfl (by decide) (fun x11 => [(0, .ref (a 0)), (1, .int p1), (2, .int x10), (3, .int x11)]) h (fun _ => rfl) (fun x11 h => ?_)
      refine zr_goto (tgt := 6) C dX7_hasAll_47 (by decide) ?_
      exact hr6 x10 x11 h
    intro j8 hj9 h
    refine zz_jn1_W h (fun (u12 : Unit) => zz_ww X (0, 0) (zz_wM a k S) 42 [(0, .ref (a 0)), (1, .int p1), (3, .int v4)] []) ?_ ?_
    · intro u12 h
      refine zr_ic (v := (0 : Int32)) C dX7_hasAll_42 (by decide) rfl ?_
      exact hj9 ((0 : Int32)) h
    intro j13 hj14 h
    refine zr_if_eq (tgt := 42) C dX7_hasAll_21 (by decide) rfl h (fun h => ?_) (fun h => ?_)
    · refine zr_sub [0, 1, 3] rfl ?_
      exact hj14 () h
    · refine zr_aln C 0 dX7_hasAll_24 rfl rfl rfl ?_
      refine zg_X7_23 C zi_X7_hasAll_X7 zm_X7_hasAll_60 dX7_hasAll_25 rfl ?_
      refine zr_aln C 0 dX7_hasAll_28 rfl rfl rfl ?_
      refine zg_X7_7 C zi_X7_hasAll_X7 zm_X7_hasAll_13 dX7_hasAll_29 rfl ?_
      refine zr_iln C 3 dX7_hasAll_32 rfl rfl rfl ?_
      refine zl_M2 C dX7_hasAll_33 rfl h (fun h => ?_)
      refine zl_M17 C dX7_hasAll_34 rfl h (fun h => ?_)
      refine zr_if_eq (tgt := 42) C dX7_hasAll_35 (by decide) rfl h (fun h => ?_) (fun h => ?_)
      · refine zr_sub [0, 1, 3] rfl ?_
        exact hj14 () h
      · refine zr_ic (v := (1 : Int32)) C dX7_hasAll_38 (by decide) rfl ?_
        refine zr_goto (tgt := 43) C dX7_hasAll_39 (by decide) ?_
        refine zr_sub [0, 1, 3] rfl ?_
        exact hj9 ((1 : Int32)) h

def zf_X7_comes (N : Nat) (S : zz_St) (p1 : Int32) (p2 : Int32) : Option zz_St := zz_gd (zz_in p2 1024) (zz_let (zz_sa S 17 (upd (zz_ga S 17) p2.toNatClampNeg (vp_nar .boolean ((1 : Int32))))) (fun S1 => zz_gd (zz_in p1 12) (zz_gd (zz_in ((((1024 : Int32)) * p1) + (zz_ga S1 11 p1.toNatClampNeg)) 12288) (zz_let (zz_sa S1 12 (upd (zz_ga S1 12) ((((1024 : Int32)) * p1) + (zz_ga S1 11 p1.toNatClampNeg)).toNatClampNeg p2)) (fun S2 => zz_gd (zz_in p1 12) (zz_gd (zz_in p1 12) (zz_let (zz_sa S2 11 (upd (zz_ga S2 11) p1.toNatClampNeg ((zz_ga S2 11 p1.toNatClampNeg) + ((1 : Int32))))) (fun S3 => some S3))))))))
theorem zi_X7_comes_X7 : ∀ w ∈ wsX70, w ∈ wsX7_comes := by decide +kernel
theorem zm_X7_comes_60 : Cond.fieldLink RX7 60 "GridRipUpModel" "inTree" "[Z" ∈ wsX7_comes := by decide +kernel
theorem zm_X7_comes_45 : Cond.fieldLink RX7 45 "GridRipUpModel" "tree" "[I" ∈ wsX7_comes := by decide +kernel
theorem zm_X7_comes_42 : Cond.fieldLink RX7 42 "GridRipUpModel" "treeSize" "[I" ∈ wsX7_comes := by decide +kernel
theorem zd_X7_comes : yX7_comes.cls = RX7 ∧ yX7_comes.cls ≠ "java/lang/invoke/MethodHandle" ∧ yX7_comes.cls ≠ "java/lang/invoke/VarHandle" ∧ (parseMethodDescriptor yX7_comes.desc).map (fun d => d.parameters.length) = some 2 := by decide +kernel
set_option maxHeartbeats 4000000 in
set_option maxRecDepth 100000 in
theorem zc_X7_comes (N : Nat) (l : Launch) (D : va_G) (k : Nat → ClassId) {a : Nat → Nat} (S : zz_St) (p1 : Int32) (p2 : Int32)  (u : zz_St) (h : zf_X7_comes N S p1 p2 = some u) : zz_MV l yX7_comes wsX7_comes ({ frames := 0, cells := 0, slots := 0, locals := 0 } : Room) D k (zz_wM a k) [.ref (a 0), .int p1, .int p2] S u := by
  refine zz_metV (cc := cX7_comes) (nL := 3) (by decide) rfl (Nat.le_of_ble_eq_true rfl) ?_
  intro X C hret
  have C : zz_ok X cX7_comes RX7 wsX7_comes k 3 ({ frames := 0, cells := 0, slots := 0, locals := 0 } : Room) := C
  unfold zf_X7_comes at h
  show zz_ww X (0, 0) (zz_wM a k S) 0 [(0, .ref (a 0)), (1, .int p1), (2, .int p2)] []
  refine zr_aln C 0 dX7_comes_0 rfl rfl rfl ?_
  refine zg_X7_23 C zi_X7_comes_X7 zm_X7_comes_60 dX7_comes_1 rfl ?_
  refine zr_iln C 2 dX7_comes_4 rfl rfl rfl ?_
  refine zr_ic (v := (1 : Int32)) C dX7_comes_5 (by decide) rfl ?_
  refine zs_M17 C dX7_comes_6 rfl h (fun S1 h => ?_)
  refine zr_aln C 0 dX7_comes_7 rfl rfl rfl ?_
  refine zg_X7_17 C zi_X7_comes_X7 zm_X7_comes_45 dX7_comes_8 rfl ?_
  refine zr_si (v := (1024 : Int32)) C dX7_comes_11 (by decide) rfl ?_
  refine zr_iln C 1 dX7_comes_14 rfl rfl rfl ?_
  refine zr_imul C dX7_comes_15 rfl ?_
  refine zr_aln C 0 dX7_comes_16 rfl rfl rfl ?_
  refine zg_X7_16 C zi_X7_comes_X7 zm_X7_comes_42 dX7_comes_17 rfl ?_
  refine zr_iln C 1 dX7_comes_20 rfl rfl rfl ?_
  refine zl_M11 C dX7_comes_21 rfl h (fun h => ?_)
  refine zr_iadd C dX7_comes_22 rfl ?_
  refine zr_iln C 2 dX7_comes_23 rfl rfl rfl ?_
  refine zs_M12 C dX7_comes_24 rfl h (fun S2 h => ?_)
  refine zr_aln C 0 dX7_comes_25 rfl rfl rfl ?_
  refine zg_X7_16 C zi_X7_comes_X7 zm_X7_comes_42 dX7_comes_26 rfl ?_
  refine zr_iln C 1 dX7_comes_29 rfl rfl rfl ?_
  refine zr_dup2 C dX7_comes_30 rfl rfl rfl ?_
  refine zl_M11 C dX7_comes_31 rfl h (fun h => ?_)
  refine zr_ic (v := (1 : Int32)) C dX7_comes_32 (by decide) rfl ?_
  refine zr_iadd C dX7_comes_33 rfl ?_
  refine zs_M11 C dX7_comes_34 rfl h (fun S3 h => ?_)
  exact hret S3 35 _ (0, 0) (by decide) (by decide) dX7_comes_35 h

def zf_X7_join (N : Nat) (S : zz_St) (p1 : Int32) (p2 : Int32) (p3 : Int32) : Option zz_St := zz_gd (zz_in p1 12) (zz_gd (zz_in p2 1024) (zz_gd (zz_in p1 12) (zz_let (zz_sA S 13 (vp_updL (zz_gA S 13) p1.toNatClampNeg ((zz_gA S 13 p1.toNatClampNeg) + (zz_gA S 16 p2.toNatClampNeg)))) (fun S1 => zz_gd (zz_in p1 12) (zz_let (zz_ga S1 11 p1.toNatClampNeg) (fun x2 => zz_let p2 (fun x3 => zz_fix2 (fun rc6 (v4 : Int32) (S5 : zz_St) => zz_gd (zz_in v4 1024) (if (zz_ga S5 17 v4.toNatClampNeg) = 0 then (zz_b1 (zf_X7_back N S5 p1 v4 p3) (fun x41 => zz_let x41 (fun x42 => zz_b1 (zf_X7_comes N S5 p1 v4) (fun S43 => zz_let x42 (fun x44 => rc6 x44 S43))))) else (zz_let ((0 : Int32)) (fun x8 => zz_let x2 (fun x9 => zz_fix3 (fun rc13 (v10 : Int32) (v11 : Int32) (S12 : zz_St) => zz_gd (zz_in p1 12) (if (zz_ga S12 11 p1.toNatClampNeg) ≤ v11 then (zz_let ((0 : Int32)) (fun x15 => zz_fix2 (fun rc18 (v16 : Int32) (S17 : zz_St) => if (zz_gi S17 4) ≤ v16 then (zz_let x2 (fun x20 => zz_fix2 (fun rc23 (v21 : Int32) (S22 : zz_St) => zz_gd (zz_in p1 12) (if (zz_ga S22 11 p1.toNatClampNeg) ≤ v21 then (some S22) else (zz_gd (zz_in ((((1024 : Int32)) * p1) + v21) 12288) (zz_gd (zz_in (zz_ga S22 12 ((((1024 : Int32)) * p1) + v21).toNatClampNeg) 1024) (zz_let (zz_sa S22 3 (upd (zz_ga S22 3) (zz_ga S22 12 ((((1024 : Int32)) * p1) + v21).toNatClampNeg).toNatClampNeg p1)) (fun S25 => zz_let (v21 + (1 : Int32)) (fun x26 => rc23 x26 S25))))))) N x20 S17)) else (zz_jn1 (fun (S27 : zz_St) => zz_let (v16 + (1 : Int32)) (fun x30 => rc18 x30 S27)) (fun j28 => if ((v10 >>> (v16 &&& 31)) &&& ((1 : Int32))) = 0 then (j28 S17) else (zz_b1 (zf_X7_loosen N S17 v16) (fun S31 => zz_gd (zz_in v16 12) (zz_gd (zz_in v16 12) (zz_let (zz_sa S31 14 (upd (zz_ga S31 14) v16.toNatClampNeg ((zz_ga S31 14 v16.toNatClampNeg) + ((1 : Int32))))) (fun S32 => j28 S32)))))))) N x15 S12)) else (zz_gd (zz_in ((((1024 : Int32)) * p1) + v11) 12288) (zz_let (zz_ga S12 12 ((((1024 : Int32)) * p1) + v11).toNatClampNeg) (fun x33 => zz_gd (zz_in x33 1024) (zz_jn2 (fun (v34 : Int32) (S35 : zz_St) => zz_let (v11 + (1 : Int32)) (fun x38 => rc13 v34 x38 S35)) (fun j36 => if (zz_ga S12 3 x33.toNatClampNeg) = ((-1 : Int32)) then (j36 v10 S12) else (zz_gd (zz_in x33 1024) (if (zz_ga S12 3 x33.toNatClampNeg) = p1 then (j36 v10 S12) else (zz_gd (zz_in x33 1024) (zz_let (v10 ||| (((1 : Int32)) <<< ((zz_ga S12 3 x33.toNatClampNeg) &&& 31))) (fun x39 => zz_gd (zz_in x33 1024) (zz_gd (zz_in x33 1024) (zz_let (zz_sA S12 6 (vp_updL (zz_gA S12 6) x33.toNatClampNeg ((zz_gA S12 6 x33.toNatClampNeg) + ((1 : Int64))))) (fun S40 => j36 x39 S40))))))))))))))) N x8 x9 S5))))) N x3 S1)))))))
theorem zi_X7_join_X7 : ∀ w ∈ wsX70, w ∈ wsX7_join := by decide +kernel
theorem zm_X7_join_48 : Cond.fieldLink RX7 48 "GridRipUpModel" "costs" "[J" ∈ wsX7_join := by decide +kernel
theorem zm_X7_join_57 : Cond.fieldLink RX7 57 "GridRipUpModel" "distance" "[J" ∈ wsX7_join := by decide +kernel
theorem zm_X7_join_42 : Cond.fieldLink RX7 42 "GridRipUpModel" "treeSize" "[I" ∈ wsX7_join := by decide +kernel
theorem zm_X7_join_60 : Cond.fieldLink RX7 60 "GridRipUpModel" "inTree" "[Z" ∈ wsX7_join := by decide +kernel
theorem zm_X7_join_94 : Cond.fieldLink RX7 94 "GridRipUpModel" "nets" "I" ∈ wsX7_join := by decide +kernel
theorem zm_X7_join_16 : Cond.fieldLink RX7 16 "GridRipUpModel" "holder" "[I" ∈ wsX7_join := by decide +kernel
theorem zm_X7_join_45 : Cond.fieldLink RX7 45 "GridRipUpModel" "tree" "[I" ∈ wsX7_join := by decide +kernel
theorem zm_X7_join_51 : Cond.fieldLink RX7 51 "GridRipUpModel" "rips" "[I" ∈ wsX7_join := by decide +kernel
theorem zm_X7_join_26 : Cond.fieldLink RX7 26 "GridRipUpModel" "history" "[J" ∈ wsX7_join := by decide +kernel
theorem zd_X7_join : yX7_join.cls = RX7 ∧ yX7_join.cls ≠ "java/lang/invoke/MethodHandle" ∧ yX7_join.cls ≠ "java/lang/invoke/VarHandle" ∧ (parseMethodDescriptor yX7_join.desc).map (fun d => d.parameters.length) = some 3 := by decide +kernel
set_option maxHeartbeats 4000000 in
set_option maxRecDepth 100000 in
theorem zc_X7_join (N : Nat) (l : Launch) (D : va_G) (k : Nat → ClassId) {a : Nat → Nat} (S : zz_St) (p1 : Int32) (p2 : Int32) (p3 : Int32)  (u : zz_St) (h : zf_X7_join N S p1 p2 p3 = some u) : zz_MV l yX7_join wsX7_join ({ frames := 4, cells := 0, slots := 0, locals := 104 } : Room) D k (zz_wM a k) [.ref (a 0), .int p1, .int p2, .int p3] S u := by
  refine zz_metV (cc := cX7_join) (nL := 9) (by decide) rfl (Nat.le_of_ble_eq_true rfl) ?_
  intro X C hret
  have C : zz_ok X cX7_join RX7 wsX7_join k 9 ({ frames := 4, cells := 0, slots := 0, locals := 104 } : Room) := C
  unfold zf_X7_join at h
  show zz_ww X (0, 0) (zz_wM a k S) 0 [(0, .ref (a 0)), (1, .int p1), (2, .int p2), (3, .int p3)] []
  refine zr_aln C 0 dX7_join_0 rfl rfl rfl ?_
  refine zg_X7_18 C zi_X7_join_X7 zm_X7_join_48 dX7_join_1 rfl ?_
  refine zr_iln C 1 dX7_join_4 rfl rfl rfl ?_
  refine zr_dup2 C dX7_join_5 rfl rfl rfl ?_
  refine zl_M13 C dX7_join_6 rfl h (fun h => ?_)
  refine zr_aln C 0 dX7_join_7 rfl rfl rfl ?_
  refine zg_X7_22 C zi_X7_join_X7 zm_X7_join_57 dX7_join_8 rfl ?_
  refine zr_iln C 2 dX7_join_11 rfl rfl rfl ?_
  refine zl_M16 C dX7_join_12 rfl h (fun h => ?_)
  refine zr_ladd C dX7_join_13 rfl ?_
  refine zs_M13 C dX7_join_14 rfl h (fun S1 h => ?_)
  refine zr_aln C 0 dX7_join_15 rfl rfl rfl ?_
  refine zg_X7_16 C zi_X7_join_X7 zm_X7_join_42 dX7_join_16 rfl ?_
  refine zr_iln C 1 dX7_join_19 rfl rfl rfl ?_
  refine zl_M11 C dX7_join_20 rfl h (fun h => ?_)
  refine zr_is C [1, 2, 3, 4, 0] dX7_join_21 rfl (by decide) (fun x2 => [(0, .ref (a 0)), (1, .int p1), (2, .int p2), (3, .int p3), (4, .int x2)]) h (fun _ => rfl) (fun x2 h => ?_)
  refine zr_iln C 2 dX7_join_23 rfl rfl rfl ?_
  refine zr_is C [1, 2, 3, 4, 5, 0] dX7_join_24 rfl (by decide) (fun x3 => [(0, .ref (a 0)), (1, .int p1), (2, .int p2), (3, .int p3), (4, .int x2), (5, .int x3)]) h (fun _ => rfl) (fun x3 h => ?_)
  refine zr_sub [0, 1, 3, 4, 5] rfl ?_
  refine zz_fix2_W (fun (v4 : Int32) (S5 : zz_St) => zz_ww X (0, 0) (zz_wM a k S5) 26 [(0, .ref (a 0)), (1, .int p1), (3, .int p3), (4, .int x2), (5, .int v4)] []) ?_ N x3 S1 h
  intro rc6 hr7 v4 S5 h
  refine zr_aln C 0 dX7_join_26 rfl rfl rfl ?_
  refine zg_X7_23 C zi_X7_join_X7 zm_X7_join_60 dX7_join_27 rfl ?_
  refine zr_il C 4 dX7_join_30 rfl rfl ?_
  refine zl_M17 C dX7_join_32 rfl h (fun h => ?_)
  refine zr_if_ne (tgt := 60) C dX7_join_33 (by decide) rfl h (fun h => ?_) (fun h => ?_)
  · refine zr_ic (v := (0 : Int32)) C dX7_join_60 (by decide) rfl ?_
    refine zr_is C [1, 2, 3, 4, 5, 0] dX7_join_61 rfl (by decide) (fun x8 => [(0, .ref (a 0)), (1, .int p1), (3, .int p3), (4, .int x2), (5, .int v4), (6, .int x8)]) h (fun _ => rfl) (fun x8 h => ?_)
    refine zr_il C 3 dX7_join_63 rfl rfl ?_
    refine zr_is C [1, 2, 3, 4, 5, 6, 0] dX7_join_65 rfl (by decide) (fun x9 => [(0, .ref (a 0)), (1, .int p1), (3, .int p3), (4, .int x2), (5, .int v4), (6, .int x8), (7, .int x9)]) h (fun _ => rfl) (fun x9 h => ?_)
    refine zr_sub [0, 1, 3, 5, 6] rfl ?_
    refine zz_fix3_W (fun (v10 : Int32) (v11 : Int32) (S12 : zz_St) => zz_ww X (0, 0) (zz_wM a k S12) 67 [(0, .ref (a 0)), (1, .int p1), (4, .int x2), (6, .int v10), (7, .int v11)] []) ?_ N x8 x9 S5 h
    intro rc13 hr14 v10 v11 S12 h
    refine zr_il C 4 dX7_join_67 rfl rfl ?_
    refine zr_aln C 0 dX7_join_69 rfl rfl rfl ?_
    refine zg_X7_16 C zi_X7_join_X7 zm_X7_join_42 dX7_join_70 rfl ?_
    refine zr_iln C 1 dX7_join_73 rfl rfl rfl ?_
    refine zl_M11 C dX7_join_74 rfl h (fun h => ?_)
    refine zr_icmp_ge (tgt := 149) C dX7_join_75 (by decide) rfl h (fun h => ?_) (fun h => ?_)
    · refine zr_ic (v := (0 : Int32)) C dX7_join_149 (by decide) rfl ?_
      refine zr_is C [1, 2, 3, 4, 0] dX7_join_150 rfl (by decide) (fun x15 => [(0, .ref (a 0)), (1, .int p1), (4, .int x2), (6, .int v10), (7, .int x15)]) h (fun _ => rfl) (fun x15 h => ?_)
      refine zz_fix2_W (fun (v16 : Int32) (S17 : zz_St) => zz_ww X (0, 0) (zz_wM a k S17) 152 [(0, .ref (a 0)), (1, .int p1), (4, .int x2), (6, .int v10), (7, .int v16)] []) ?_ N x15 S12 h
      intro rc18 hr19 v16 S17 h
      refine zr_il C 4 dX7_join_152 rfl rfl ?_
      refine zr_aln C 0 dX7_join_154 rfl rfl rfl ?_
      refine zg_X7_5 C zi_X7_join_X7 zm_X7_join_94 dX7_join_155 rfl ?_
      refine zr_icmp_ge (tgt := 197) C dX7_join_158 (by decide) rfl h (fun h => ?_) (fun h => ?_)
      · refine zr_il C 2 dX7_join_197 rfl rfl ?_
        refine zr_is C [1, 2, 3, 4, 0] dX7_join_199 rfl (by decide) (fun x20 => [(0, .ref (a 0)), (1, .int p1), (4, .int x2), (6, .int v10), (7, .int x20)]) h (fun _ => rfl) (fun x20 h => ?_)
        refine zr_sub [0, 1, 4] rfl ?_
        refine zz_fix2_W (fun (v21 : Int32) (S22 : zz_St) => zz_ww X (0, 0) (zz_wM a k S22) 201 [(0, .ref (a 0)), (1, .int p1), (7, .int v21)] []) ?_ N x20 S17 h
        intro rc23 hr24 v21 S22 h
        refine zr_il C 2 dX7_join_201 rfl rfl ?_
        refine zr_aln C 0 dX7_join_203 rfl rfl rfl ?_
        refine zg_X7_16 C zi_X7_join_X7 zm_X7_join_42 dX7_join_204 rfl ?_
        refine zr_iln C 1 dX7_join_207 rfl rfl rfl ?_
        refine zl_M11 C dX7_join_208 rfl h (fun h => ?_)
        refine zr_icmp_ge (tgt := 237) C dX7_join_209 (by decide) rfl h (fun h => ?_) (fun h => ?_)
        · exact hret S22 237 _ (0, 0) (by decide) (by decide) dX7_join_237 h
        · refine zr_aln C 0 dX7_join_212 rfl rfl rfl ?_
          refine zg_X7_8 C zi_X7_join_X7 zm_X7_join_16 dX7_join_213 rfl ?_
          refine zr_aln C 0 dX7_join_216 rfl rfl rfl ?_
          refine zg_X7_17 C zi_X7_join_X7 zm_X7_join_45 dX7_join_217 rfl ?_
          refine zr_si (v := (1024 : Int32)) C dX7_join_220 (by decide) rfl ?_
          refine zr_iln C 1 dX7_join_223 rfl rfl rfl ?_
          refine zr_imul C dX7_join_224 rfl ?_
          refine zr_il C 2 dX7_join_225 rfl rfl ?_
          refine zr_iadd C dX7_join_227 rfl ?_
          refine zl_M12 C dX7_join_228 rfl h (fun h => ?_)
          refine zr_iln C 1 dX7_join_229 rfl rfl rfl ?_
          refine zs_M3 C dX7_join_230 rfl h (fun S25 h => ?_)
          refine zr_iinc (v := (1 : Int32)) C 2 [1, 2, 0] dX7_join_231 rfl (by decide) rfl (by decide) (fun x26 => [(0, .ref (a 0)), (1, .int p1), (7, .int x26)]) h (fun _ => rfl) (fun x26 h => ?_)
          refine zr_goto (tgt := 201) C dX7_join_234 (by decide) ?_
          exact hr24 x26 S25 h
      · refine zr_il C 3 dX7_join_161 rfl rfl ?_
        refine zr_il C 4 dX7_join_163 rfl rfl ?_
        refine zr_ishr C dX7_join_165 rfl ?_
        refine zr_ic (v := (1 : Int32)) C dX7_join_166 (by decide) rfl ?_
        refine zr_iand C dX7_join_167 rfl ?_
        refine zz_jn1_W h (fun (S27 : zz_St) => zz_ww X (0, 0) (zz_wM a k S27) 191 [(0, .ref (a 0)), (1, .int p1), (4, .int x2), (6, .int v10), (7, .int v16)] []) ?_ ?_
        · intro S27 h
          refine zr_iinc (v := (1 : Int32)) C 4 [1, 2, 3, 4, 0] dX7_join_191 rfl (by decide) rfl (by decide) (fun x30 => [(0, .ref (a 0)), (1, .int p1), (4, .int x2), (6, .int v10), (7, .int x30)]) h (fun _ => rfl) (fun x30 h => ?_)
          refine zr_goto (tgt := 152) C dX7_join_194 (by decide) ?_
          exact hr19 x30 S27 h
        intro j28 hj29 h
        refine zr_if_ne (tgt := 174) C dX7_join_168 (by decide) rfl h (fun h => ?_) (fun h => ?_)
        · refine zr_aln C 0 dX7_join_174 rfl rfl rfl ?_
          refine zr_il C 4 dX7_join_175 rfl rfl ?_
          refine zr_cVv (wf := (zz_wM a k)) (st := []) C (fun l D u hu => zc_X7_loosen N l D k (a := a) S17 v16 u hu) gX7_join_X7_loosen rfl zd_X7_loosen ⟨by decide, by decide⟩ ⟨by decide, by decide⟩ rfl ⟨0, 7, _, _, _, zk_M0, rfl⟩ (Nat.le_of_ble_eq_true rfl) rfl dX7_join_177 rfl rfl h (fun S31 _ h => ?_)
          refine zr_aln C 0 dX7_join_180 rfl rfl rfl ?_
          refine zg_X7_19 C zi_X7_join_X7 zm_X7_join_51 dX7_join_181 rfl ?_
          refine zr_il C 4 dX7_join_184 rfl rfl ?_
          refine zr_dup2 C dX7_join_186 rfl rfl rfl ?_
          refine zl_M14 C dX7_join_187 rfl h (fun h => ?_)
          refine zr_ic (v := (1 : Int32)) C dX7_join_188 (by decide) rfl ?_
          refine zr_iadd C dX7_join_189 rfl ?_
          refine zs_M14 C dX7_join_190 rfl h (fun S32 h => ?_)
          exact hj29 S32 h
        · refine zr_goto (tgt := 191) C dX7_join_171 (by decide) ?_
          exact hj29 S17 h
    · refine zr_aln C 0 dX7_join_78 rfl rfl rfl ?_
      refine zg_X7_17 C zi_X7_join_X7 zm_X7_join_45 dX7_join_79 rfl ?_
      refine zr_si (v := (1024 : Int32)) C dX7_join_82 (by decide) rfl ?_
      refine zr_iln C 1 dX7_join_85 rfl rfl rfl ?_
      refine zr_imul C dX7_join_86 rfl ?_
      refine zr_il C 4 dX7_join_87 rfl rfl ?_
      refine zr_iadd C dX7_join_89 rfl ?_
      refine zl_M12 C dX7_join_90 rfl h (fun h => ?_)
      refine zr_is C [1, 2, 3, 4, 5, 0] dX7_join_91 rfl (by decide) (fun x33 => [(0, .ref (a 0)), (1, .int p1), (4, .int x2), (6, .int v10), (7, .int v11), (8, .int x33)]) h (fun _ => rfl) (fun x33 h => ?_)
      refine zr_aln C 0 dX7_join_93 rfl rfl rfl ?_
      refine zg_X7_8 C zi_X7_join_X7 zm_X7_join_16 dX7_join_94 rfl ?_
      refine zr_il C 5 dX7_join_97 rfl rfl ?_
      refine zl_M3 C dX7_join_99 rfl h (fun h => ?_)
      refine zr_ic (v := (-1 : Int32)) C dX7_join_100 (by decide) rfl ?_
      refine zz_jn2_W h (fun (v34 : Int32) (S35 : zz_St) => zz_ww X (0, 0) (zz_wM a k S35) 143 [(0, .ref (a 0)), (1, .int p1), (4, .int x2), (6, .int v34), (7, .int v11)] []) ?_ ?_
      · intro v34 S35 h
        refine zr_iinc (v := (1 : Int32)) C 4 [1, 2, 3, 4, 0] dX7_join_143 rfl (by decide) rfl (by decide) (fun x38 => [(0, .ref (a 0)), (1, .int p1), (4, .int x2), (6, .int v34), (7, .int x38)]) h (fun _ => rfl) (fun x38 h => ?_)
        refine zr_goto (tgt := 67) C dX7_join_146 (by decide) ?_
        exact hr14 v34 x38 S35 h
      intro j36 hj37 h
      refine zr_icmp_eq (tgt := 143) C dX7_join_101 (by decide) rfl h (fun h => ?_) (fun h => ?_)
      · refine zr_sub [0, 1, 2, 3, 4] rfl ?_
        exact hj37 v10 S12 h
      · refine zr_aln C 0 dX7_join_104 rfl rfl rfl ?_
        refine zg_X7_8 C zi_X7_join_X7 zm_X7_join_16 dX7_join_105 rfl ?_
        refine zr_il C 5 dX7_join_108 rfl rfl ?_
        refine zl_M3 C dX7_join_110 rfl h (fun h => ?_)
        refine zr_iln C 1 dX7_join_111 rfl rfl rfl ?_
        refine zr_icmp_ne (tgt := 118) C dX7_join_112 (by decide) rfl h (fun h => ?_) (fun h => ?_)
        · refine zr_il C 3 dX7_join_118 rfl rfl ?_
          refine zr_ic (v := (1 : Int32)) C dX7_join_120 (by decide) rfl ?_
          refine zr_aln C 0 dX7_join_121 rfl rfl rfl ?_
          refine zg_X7_8 C zi_X7_join_X7 zm_X7_join_16 dX7_join_122 rfl ?_
          refine zr_il C 5 dX7_join_125 rfl rfl ?_
          refine zl_M3 C dX7_join_127 rfl h (fun h => ?_)
          refine zr_ishl C dX7_join_128 rfl ?_
          refine zr_ior C dX7_join_129 rfl ?_
          refine zr_is C [1, 2, 3, 0, 4, 5] dX7_join_130 rfl (by decide) (fun x39 => [(0, .ref (a 0)), (1, .int p1), (4, .int x2), (6, .int x39), (7, .int v11), (8, .int x33)]) h (fun _ => rfl) (fun x39 h => ?_)
          refine zr_aln C 0 dX7_join_132 rfl rfl rfl ?_
          refine zg_X7_11 C zi_X7_join_X7 zm_X7_join_26 dX7_join_133 rfl ?_
          refine zr_il C 5 dX7_join_136 rfl rfl ?_
          refine zr_dup2 C dX7_join_138 rfl rfl rfl ?_
          refine zl_M6 C dX7_join_139 rfl h (fun h => ?_)
          refine zr_lc (v := 1) C dX7_join_140 (by decide) rfl ?_
          refine zr_ladd C dX7_join_141 rfl ?_
          refine zs_M6 C dX7_join_142 rfl h (fun S40 h => ?_)
          refine zr_sub [0, 1, 2, 3, 4] rfl ?_
          exact hj37 x39 S40 h
        · refine zr_goto (tgt := 143) C dX7_join_115 (by decide) ?_
          refine zr_sub [0, 1, 2, 3, 4] rfl ?_
          exact hj37 v10 S12 h
  · refine zr_aln C 0 dX7_join_36 rfl rfl rfl ?_
    refine zr_iln C 1 dX7_join_37 rfl rfl rfl ?_
    refine zr_il C 4 dX7_join_38 rfl rfl ?_
    refine zr_iln C 2 dX7_join_40 rfl rfl rfl ?_
    refine zr_cVir (wf := (zz_wM a k)) (st := []) C (fun l D v hv => zc_X7_back N l D k (a := a) S5 p1 v4 p3 v hv) gX7_join_X7_back rfl zd_X7_back ⟨by decide, by decide⟩ ⟨by decide, by decide⟩ rfl ⟨0, 7, _, _, _, zk_M0, rfl⟩ (Nat.le_of_ble_eq_true rfl) rfl dX7_join_41 rfl rfl h (fun x41 _ h => ?_)
    refine zr_is C [1, 2, 3, 4, 5, 0] dX7_join_44 rfl (by decide) (fun x42 => [(0, .ref (a 0)), (1, .int p1), (3, .int p3), (4, .int x2), (5, .int v4), (6, .int x42)]) h (fun _ => rfl) (fun x42 h => ?_)
    refine zr_aln C 0 dX7_join_46 rfl rfl rfl ?_
    refine zr_iln C 1 dX7_join_47 rfl rfl rfl ?_
    refine zr_il C 4 dX7_join_48 rfl rfl ?_
    refine zr_cVv (wf := (zz_wM a k)) (st := []) C (fun l D u hu => zc_X7_comes N l D k (a := a) S5 p1 v4 u hu) gX7_join_X7_comes rfl zd_X7_comes ⟨by decide, by decide⟩ ⟨by decide, by decide⟩ rfl ⟨0, 7, _, _, _, zk_M0, rfl⟩ (Nat.le_of_ble_eq_true rfl) rfl dX7_join_50 rfl rfl h (fun S43 _ h => ?_)
    refine zr_il C 5 dX7_join_53 rfl rfl ?_
    refine zr_is C [1, 2, 3, 4, 0, 5] dX7_join_55 rfl (by decide) (fun x44 => [(0, .ref (a 0)), (1, .int p1), (3, .int p3), (4, .int x2), (5, .int x44), (6, .int x42)]) h (fun _ => rfl) (fun x44 h => ?_)
    refine zr_goto (tgt := 26) C dX7_join_57 (by decide) ?_
    refine zr_sub [0, 1, 2, 3, 4] rfl ?_
    exact hr7 x44 S43 h

def zf_X7_lead (N : Nat) (S : zz_St) (p1 : Int32) : Option zz_St := zz_gd (zz_in p1 12) (zz_let (zz_sa S 15 (upd (zz_ga S 15) p1.toNatClampNeg ((0 : Int32)))) (fun S1 => zz_gd (zz_in p1 12) (zz_let (zz_sA S1 13 (vp_updL (zz_gA S1 13) p1.toNatClampNeg ((0 : Int64)))) (fun S2 => zz_gd (zz_in p1 12) (zz_let (zz_sa S2 11 (upd (zz_ga S2 11) p1.toNatClampNeg ((0 : Int32)))) (fun S3 => zz_let ((0 : Int32)) (fun x4 => zz_fix2 (fun rc7 (v5 : Int32) (S6 : zz_St) => if ((1024 : Int32)) ≤ v5 then (zz_gd (zz_in (((5 : Int32)) * p1) 60) (zz_b1 (zf_X7_comes N S6 p1 (zz_ga S6 2 (((5 : Int32)) * p1).toNatClampNeg)) (fun S9 => zz_fix1 (fun rc11 (S10 : zz_St) => zz_b1 (zf_X7_hasAll N S10 p1) (fun x13 => if x13 = 0 then (zz_b1 (zf_X7_search N S10 p1 ((0 : Int32))) (fun S15 => zz_b1 (zf_X7_nextPin N S15 p1) (fun x16 => zz_let x16 (fun x17 => zz_jn1 (fun (v18 : Int32) => zz_let v18 (fun x21 => zz_jn2 (fun (v22 : Int32) (S23 : zz_St) => zz_b1 (zf_X7_join N S23 p1 v22 x21) (fun S26 => rc11 S26)) (fun j24 => if x21 = 0 then (j24 x17 S15) else (zz_b1 (zf_X7_findBlocks N S15 p1) (fun S27 => zz_b1 (zf_X7_search N S27 p1 ((1 : Int32))) (fun S28 => zz_b1 (zf_X7_nextPin N S28 p1) (fun x29 => zz_let x29 (fun x30 => if x30 = ((-1 : Int32)) then (zz_b1 (zf_X7_loosen N S28 p1) (fun S32 => some S32)) else (zz_gd (zz_in p1 12) (zz_let (zz_sa S28 15 (upd (zz_ga S28 15) p1.toNatClampNeg ((0 : Int32)))) (fun S31 => j24 x30 S31))))))))))) (fun j19 => if x17 = ((-1 : Int32)) then (j19 ((1 : Int32))) else (j19 ((0 : Int32)))))))) else (zz_gd (zz_in p1 12) (zz_let (zz_sa S10 10 (upd (zz_ga S10 10) p1.toNatClampNeg (vp_nar .boolean ((1 : Int32))))) (fun S14 => some S14))))) N S9))) else (zz_gd (zz_in v5 1024) (zz_let (zz_sa S6 17 (upd (zz_ga S6 17) v5.toNatClampNeg (vp_nar .boolean ((0 : Int32))))) (fun S33 => zz_let (v5 + (1 : Int32)) (fun x34 => rc7 x34 S33))))) N x4 S3)))))))
theorem zi_X7_lead_X7 : ∀ w ∈ wsX70, w ∈ wsX7_lead := by decide +kernel
theorem zm_X7_lead_54 : Cond.fieldLink RX7 54 "GridRipUpModel" "blocks" "[I" ∈ wsX7_lead := by decide +kernel
theorem zm_X7_lead_48 : Cond.fieldLink RX7 48 "GridRipUpModel" "costs" "[J" ∈ wsX7_lead := by decide +kernel
theorem zm_X7_lead_42 : Cond.fieldLink RX7 42 "GridRipUpModel" "treeSize" "[I" ∈ wsX7_lead := by decide +kernel
theorem zm_X7_lead_13 : Cond.fieldLink RX7 13 "GridRipUpModel" "pins" "[I" ∈ wsX7_lead := by decide +kernel
theorem zm_X7_lead_39 : Cond.fieldLink RX7 39 "GridRipUpModel" "led" "[Z" ∈ wsX7_lead := by decide +kernel
theorem zm_X7_lead_60 : Cond.fieldLink RX7 60 "GridRipUpModel" "inTree" "[Z" ∈ wsX7_lead := by decide +kernel
theorem zd_X7_lead : yX7_lead.cls = RX7 ∧ yX7_lead.cls ≠ "java/lang/invoke/MethodHandle" ∧ yX7_lead.cls ≠ "java/lang/invoke/VarHandle" ∧ (parseMethodDescriptor yX7_lead.desc).map (fun d => d.parameters.length) = some 1 := by decide +kernel
set_option maxHeartbeats 4000000 in
set_option maxRecDepth 100000 in
theorem zc_X7_lead (N : Nat) (l : Launch) (D : va_G) (k : Nat → ClassId) {a : Nat → Nat} (S : zz_St) (p1 : Int32)  (u : zz_St) (h : zf_X7_lead N S p1 = some u) : zz_MV l yX7_lead wsX7_lead ({ frames := 5, cells := 0, slots := 0, locals := 132 } : Room) D k (zz_wM a k) [.ref (a 0), .int p1] S u := by
  refine zz_metV (cc := cX7_lead) (nL := 4) (by decide) rfl (Nat.le_of_ble_eq_true rfl) ?_
  intro X C hret
  have C : zz_ok X cX7_lead RX7 wsX7_lead k 4 ({ frames := 5, cells := 0, slots := 0, locals := 132 } : Room) := C
  unfold zf_X7_lead at h
  show zz_ww X (0, 0) (zz_wM a k S) 0 [(0, .ref (a 0)), (1, .int p1)] []
  refine zr_aln C 0 dX7_lead_0 rfl rfl rfl ?_
  refine zg_X7_20 C zi_X7_lead_X7 zm_X7_lead_54 dX7_lead_1 rfl ?_
  refine zr_iln C 1 dX7_lead_4 rfl rfl rfl ?_
  refine zr_ic (v := (0 : Int32)) C dX7_lead_5 (by decide) rfl ?_
  refine zs_M15 C dX7_lead_6 rfl h (fun S1 h => ?_)
  refine zr_aln C 0 dX7_lead_7 rfl rfl rfl ?_
  refine zg_X7_18 C zi_X7_lead_X7 zm_X7_lead_48 dX7_lead_8 rfl ?_
  refine zr_iln C 1 dX7_lead_11 rfl rfl rfl ?_
  refine zr_lc (v := 0) C dX7_lead_12 (by decide) rfl ?_
  refine zs_M13 C dX7_lead_13 rfl h (fun S2 h => ?_)
  refine zr_aln C 0 dX7_lead_14 rfl rfl rfl ?_
  refine zg_X7_16 C zi_X7_lead_X7 zm_X7_lead_42 dX7_lead_15 rfl ?_
  refine zr_iln C 1 dX7_lead_18 rfl rfl rfl ?_
  refine zr_ic (v := (0 : Int32)) C dX7_lead_19 (by decide) rfl ?_
  refine zs_M11 C dX7_lead_20 rfl h (fun S3 h => ?_)
  refine zr_ic (v := (0 : Int32)) C dX7_lead_21 (by decide) rfl ?_
  refine zr_isn C [1, 2, 0] dX7_lead_22 rfl rfl (by decide) (fun x4 => [(0, .ref (a 0)), (1, .int p1), (2, .int x4)]) h (fun _ => rfl) (fun x4 h => ?_)
  refine zz_fix2_W (fun (v5 : Int32) (S6 : zz_St) => zz_ww X (0, 0) (zz_wM a k S6) 23 [(0, .ref (a 0)), (1, .int p1), (2, .int v5)] []) ?_ N x4 S3 h
  intro rc7 hr8 v5 S6 h
  refine zr_iln C 2 dX7_lead_23 rfl rfl rfl ?_
  refine zr_si (v := (1024 : Int32)) C dX7_lead_24 (by decide) rfl ?_
  refine zr_icmp_ge (tgt := 43) C dX7_lead_27 (by decide) rfl h (fun h => ?_) (fun h => ?_)
  · refine zr_aln C 0 dX7_lead_43 rfl rfl rfl ?_
    refine zr_iln C 1 dX7_lead_44 rfl rfl rfl ?_
    refine zr_aln C 0 dX7_lead_45 rfl rfl rfl ?_
    refine zg_X7_7 C zi_X7_lead_X7 zm_X7_lead_13 dX7_lead_46 rfl ?_
    refine zr_ic (v := (5 : Int32)) C dX7_lead_49 (by decide) rfl ?_
    refine zr_iln C 1 dX7_lead_50 rfl rfl rfl ?_
    refine zr_imul C dX7_lead_51 rfl ?_
    refine zl_M2 C dX7_lead_52 rfl h (fun h => ?_)
    refine zr_cVv (wf := (zz_wM a k)) (st := []) C (fun l D u hu => zc_X7_comes N l D k (a := a) S6 p1 (zz_ga S6 2 (((5 : Int32)) * p1).toNatClampNeg) u hu) gX7_lead_X7_comes rfl zd_X7_comes ⟨by decide, by decide⟩ ⟨by decide, by decide⟩ rfl ⟨0, 7, _, _, _, zk_M0, rfl⟩ (Nat.le_of_ble_eq_true rfl) rfl dX7_lead_53 rfl rfl h (fun S9 _ h => ?_)
    refine zr_sub [0, 1] rfl ?_
    refine zz_fix1_W (fun (S10 : zz_St) => zz_ww X (0, 0) (zz_wM a k S10) 56 [(0, .ref (a 0)), (1, .int p1)] []) ?_ N S9 h
    intro rc11 hr12 S10 h
    refine zr_aln C 0 dX7_lead_56 rfl rfl rfl ?_
    refine zr_iln C 1 dX7_lead_57 rfl rfl rfl ?_
    refine zr_cVir (wf := (zz_wM a k)) (st := []) C (fun l D v hv => zc_X7_hasAll N l D k (a := a) S10 p1 v hv) gX7_lead_X7_hasAll rfl zd_X7_hasAll ⟨by decide, by decide⟩ ⟨by decide, by decide⟩ rfl ⟨0, 7, _, _, _, zk_M0, rfl⟩ (Nat.le_of_ble_eq_true rfl) rfl dX7_lead_58 rfl rfl h (fun x13 _ h => ?_)
    refine zr_if_ne (tgt := 136) C dX7_lead_61 (by decide) rfl h (fun h => ?_) (fun h => ?_)
    · refine zr_aln C 0 dX7_lead_136 rfl rfl rfl ?_
      refine zg_X7_15 C zi_X7_lead_X7 zm_X7_lead_39 dX7_lead_137 rfl ?_
      refine zr_iln C 1 dX7_lead_140 rfl rfl rfl ?_
      refine zr_ic (v := (1 : Int32)) C dX7_lead_141 (by decide) rfl ?_
      refine zs_M10 C dX7_lead_142 rfl h (fun S14 h => ?_)
      exact hret S14 143 _ (0, 0) (by decide) (by decide) dX7_lead_143 h
    · refine zr_aln C 0 dX7_lead_64 rfl rfl rfl ?_
      refine zr_iln C 1 dX7_lead_65 rfl rfl rfl ?_
      refine zr_ic (v := (0 : Int32)) C dX7_lead_66 (by decide) rfl ?_
      refine zr_cVv (wf := (zz_wM a k)) (st := []) C (fun l D u hu => zc_X7_search N l D k (a := a) S10 p1 ((0 : Int32)) u hu) gX7_lead_X7_search rfl zd_X7_search ⟨by decide, by decide⟩ ⟨by decide, by decide⟩ rfl ⟨0, 7, _, _, _, zk_M0, rfl⟩ (Nat.le_of_ble_eq_true rfl) rfl dX7_lead_67 rfl rfl h (fun S15 _ h => ?_)
      refine zr_aln C 0 dX7_lead_70 rfl rfl rfl ?_
      refine zr_iln C 1 dX7_lead_71 rfl rfl rfl ?_
      refine zr_cVir (wf := (zz_wM a k)) (st := []) C (fun l D v hv => zc_X7_nextPin N l D k (a := a) S15 p1 v hv) gX7_lead_X7_nextPin rfl zd_X7_nextPin ⟨by decide, by decide⟩ ⟨by decide, by decide⟩ rfl ⟨0, 7, _, _, _, zk_M0, rfl⟩ (Nat.le_of_ble_eq_true rfl) rfl dX7_lead_72 rfl rfl h (fun x16 _ h => ?_)
      refine zr_isn C [1, 2, 0] dX7_lead_75 rfl rfl (by decide) (fun x17 => [(0, .ref (a 0)), (1, .int p1), (2, .int x17)]) h (fun _ => rfl) (fun x17 h => ?_)
      refine zr_iln C 2 dX7_lead_76 rfl rfl rfl ?_
      refine zr_ic (v := (-1 : Int32)) C dX7_lead_77 (by decide) rfl ?_
      refine zz_jn1_W h (fun (v18 : Int32) => zz_ww X (0, 0) (zz_wM a k S15) 86 [(0, .ref (a 0)), (1, .int p1), (2, .int x17)] [.int v18]) ?_ ?_
      · intro v18 h
        refine zr_isn C [1, 2, 3, 0] dX7_lead_86 rfl rfl (by decide) (fun x21 => [(0, .ref (a 0)), (1, .int p1), (2, .int x17), (3, .int x21)]) h (fun _ => rfl) (fun x21 h => ?_)
        refine zr_iln C 3 dX7_lead_87 rfl rfl rfl ?_
        refine zz_jn2_W h (fun (v22 : Int32) (S23 : zz_St) => zz_ww X (0, 0) (zz_wM a k S23) 126 [(0, .ref (a 0)), (1, .int p1), (2, .int v22), (3, .int x21)] []) ?_ ?_
        · intro v22 S23 h
          refine zr_aln C 0 dX7_lead_126 rfl rfl rfl ?_
          refine zr_iln C 1 dX7_lead_127 rfl rfl rfl ?_
          refine zr_iln C 2 dX7_lead_128 rfl rfl rfl ?_
          refine zr_iln C 3 dX7_lead_129 rfl rfl rfl ?_
          refine zr_cVv (wf := (zz_wM a k)) (st := []) C (fun l D u hu => zc_X7_join N l D k (a := a) S23 p1 v22 x21 u hu) gX7_lead_X7_join rfl zd_X7_join ⟨by decide, by decide⟩ ⟨by decide, by decide⟩ rfl ⟨0, 7, _, _, _, zk_M0, rfl⟩ (Nat.le_of_ble_eq_true rfl) rfl dX7_lead_130 rfl rfl h (fun S26 _ h => ?_)
          refine zr_goto (tgt := 56) C dX7_lead_133 (by decide) ?_
          refine zr_sub [0, 1] rfl ?_
          exact hr12 S26 h
        intro j24 hj25 h
        refine zr_if_eq (tgt := 126) C dX7_lead_88 (by decide) rfl h (fun h => ?_) (fun h => ?_)
        · exact hj25 x17 S15 h
        · refine zr_aln C 0 dX7_lead_91 rfl rfl rfl ?_
          refine zr_iln C 1 dX7_lead_92 rfl rfl rfl ?_
          refine zr_cVv (wf := (zz_wM a k)) (st := []) C (fun l D u hu => zc_X7_findBlocks N l D k (a := a) S15 p1 u hu) gX7_lead_X7_findBlocks rfl zd_X7_findBlocks ⟨by decide, by decide⟩ ⟨by decide, by decide⟩ rfl ⟨0, 7, _, _, _, zk_M0, rfl⟩ (Nat.le_of_ble_eq_true rfl) rfl dX7_lead_93 rfl rfl h (fun S27 _ h => ?_)
          refine zr_aln C 0 dX7_lead_96 rfl rfl rfl ?_
          refine zr_iln C 1 dX7_lead_97 rfl rfl rfl ?_
          refine zr_ic (v := (1 : Int32)) C dX7_lead_98 (by decide) rfl ?_
          refine zr_cVv (wf := (zz_wM a k)) (st := []) C (fun l D u hu => zc_X7_search N l D k (a := a) S27 p1 ((1 : Int32)) u hu) gX7_lead_X7_search rfl zd_X7_search ⟨by decide, by decide⟩ ⟨by decide, by decide⟩ rfl ⟨0, 7, _, _, _, zk_M0, rfl⟩ (Nat.le_of_ble_eq_true rfl) rfl dX7_lead_99 rfl rfl h (fun S28 _ h => ?_)
          refine zr_aln C 0 dX7_lead_102 rfl rfl rfl ?_
          refine zr_iln C 1 dX7_lead_103 rfl rfl rfl ?_
          refine zr_cVir (wf := (zz_wM a k)) (st := []) C (fun l D v hv => zc_X7_nextPin N l D k (a := a) S28 p1 v hv) gX7_lead_X7_nextPin rfl zd_X7_nextPin ⟨by decide, by decide⟩ ⟨by decide, by decide⟩ rfl ⟨0, 7, _, _, _, zk_M0, rfl⟩ (Nat.le_of_ble_eq_true rfl) rfl dX7_lead_104 rfl rfl h (fun x29 _ h => ?_)
          refine zr_isn C [1, 2, 0, 3] dX7_lead_107 rfl rfl (by decide) (fun x30 => [(0, .ref (a 0)), (1, .int p1), (2, .int x30), (3, .int x21)]) h (fun _ => rfl) (fun x30 h => ?_)
          refine zr_iln C 2 dX7_lead_108 rfl rfl rfl ?_
          refine zr_ic (v := (-1 : Int32)) C dX7_lead_109 (by decide) rfl ?_
          refine zr_icmp_ne (tgt := 119) C dX7_lead_110 (by decide) rfl h (fun h => ?_) (fun h => ?_)
          · refine zr_aln C 0 dX7_lead_119 rfl rfl rfl ?_
            refine zg_X7_20 C zi_X7_lead_X7 zm_X7_lead_54 dX7_lead_120 rfl ?_
            refine zr_iln C 1 dX7_lead_123 rfl rfl rfl ?_
            refine zr_ic (v := (0 : Int32)) C dX7_lead_124 (by decide) rfl ?_
            refine zs_M15 C dX7_lead_125 rfl h (fun S31 h => ?_)
            exact hj25 x30 S31 h
          · refine zr_aln C 0 dX7_lead_113 rfl rfl rfl ?_
            refine zr_iln C 1 dX7_lead_114 rfl rfl rfl ?_
            refine zr_cVv (wf := (zz_wM a k)) (st := []) C (fun l D u hu => zc_X7_loosen N l D k (a := a) S28 p1 u hu) gX7_lead_X7_loosen rfl zd_X7_loosen ⟨by decide, by decide⟩ ⟨by decide, by decide⟩ rfl ⟨0, 7, _, _, _, zk_M0, rfl⟩ (Nat.le_of_ble_eq_true rfl) rfl dX7_lead_115 rfl rfl h (fun S32 _ h => ?_)
            exact hret S32 118 _ (0, 0) (by decide) (by decide) dX7_lead_118 h
      intro j19 hj20 h
      refine zr_icmp_ne (tgt := 85) C dX7_lead_78 (by decide) rfl h (fun h => ?_) (fun h => ?_)
      · refine zr_ic (v := (0 : Int32)) C dX7_lead_85 (by decide) rfl ?_
        exact hj20 ((0 : Int32)) h
      · refine zr_ic (v := (1 : Int32)) C dX7_lead_81 (by decide) rfl ?_
        refine zr_goto (tgt := 86) C dX7_lead_82 (by decide) ?_
        exact hj20 ((1 : Int32)) h
  · refine zr_aln C 0 dX7_lead_30 rfl rfl rfl ?_
    refine zg_X7_23 C zi_X7_lead_X7 zm_X7_lead_60 dX7_lead_31 rfl ?_
    refine zr_iln C 2 dX7_lead_34 rfl rfl rfl ?_
    refine zr_ic (v := (0 : Int32)) C dX7_lead_35 (by decide) rfl ?_
    refine zs_M17 C dX7_lead_36 rfl h (fun S33 h => ?_)
    refine zr_iinc (v := (1 : Int32)) C 2 [1, 2, 0] dX7_lead_37 rfl (by decide) rfl (by decide) (fun x34 => [(0, .ref (a 0)), (1, .int p1), (2, .int x34)]) h (fun _ => rfl) (fun x34 h => ?_)
    refine zr_goto (tgt := 23) C dX7_lead_40 (by decide) ?_
    exact hr8 x34 S33 h


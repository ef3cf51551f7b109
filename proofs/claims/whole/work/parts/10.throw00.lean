def zf_X6_netAt (N : Nat) (z : Nat) (S : zz_St) (p1 : Int32) : Option ((Nat × zz_St) ⊕ (Nat × zz_St)) := zz_jn1 (fun (u1 : Unit) => some (Sum.inr (1, S))) (fun j2 => if p1 < 0 then (j2 ()) else (if p1 < (zz_gi S 0) then (zz_gd (zz_in p1 12) (some (Sum.inl (p1.toNatClampNeg, S)))) else (j2 ())))
theorem zx_X6_netAt_io : ∀ w ∈ (vx_atS RX6 107 "java/lang/IndexOutOfBoundsException" ["java/lang/RuntimeException", "java/lang/Exception"]).filter goodWord, w ∈ wsX6_netAt := by decide +kernel
theorem zx_X6_netAt_iok : Cond.classLink RX6 103 "java/lang/IndexOutOfBoundsException" ∈ wsX6_netAt := by decide +kernel
theorem zx_X6_netAt_ioi : Cond.initialized "java/lang/IndexOutOfBoundsException" ∈ wsX6_netAt := by decide +kernel
theorem zi_X6_netAt_X6 : ∀ w ∈ wsX60, w ∈ wsX6_netAt := by decide +kernel
theorem zm_X6_netAt_58 : Cond.fieldLink RX6 58 "GridRipUp" "netCount" "I" ∈ wsX6_netAt := by decide +kernel
theorem zm_X6_netAt_49 : Cond.fieldLink RX6 49 "GridRipUp" "nets" "[LGridRipUp$Net;" ∈ wsX6_netAt := by decide +kernel
theorem zd_X6_netAt : yX6_netAt.cls = RX6 ∧ yX6_netAt.cls ≠ "java/lang/invoke/MethodHandle" ∧ yX6_netAt.cls ≠ "java/lang/invoke/VarHandle" ∧ (parseMethodDescriptor yX6_netAt.desc).map (fun d => d.parameters.length) = some 1 := by decide +kernel
set_option maxHeartbeats 4000000 in
set_option maxRecDepth 100000 in
theorem zc_X6_netAt (N : Nat) (l : Launch) (D : va_G) (k : Nat → ClassId) {a : Nat → Nat} {z : Nat} (S : zz_St) (p1 : Int32)  (r : (Nat × zz_St) ⊕ (Nat × zz_St)) (hst : l.stackTraces = false) (h : zf_X6_netAt N z S p1 = some r) : zz_MX (fun v : Nat => Value.ref (a (21 + v))) (fun v : Nat => v < 12) l yX6_netAt wsX6_netAt ({ frames := 6, cells := 1, slots := 6, locals := 90 } : Room) D k (zz_wC a k z) [.ref (a 0), .int p1] S r := by
  refine zz_metXN (cc := cX6_netAt) (nL := 2) (ad := a) hst (by decide) rfl (Nat.le_of_ble_eq_true rfl) ?_
  intro X C T hret hout hthr
  have C : zz_ok X cX6_netAt RX6 wsX6_netAt k 2 ({ frames := 6, cells := 1, slots := 6, locals := 90 } : Room) := C
  unfold zf_X6_netAt at h
  show zz_ww X (0, 0) (zz_wC a k z S) 0 [(0, .ref (a 0)), (1, .int p1)] []
  refine zr_iln C 1 dX6_netAt_0 rfl rfl rfl ?_
  refine zz_jn1_W h (fun (u1 : Unit) => zz_ww X (0, 0) (zz_wC a k z S) 12 [] []) ?_ ?_
  · intro u1 h
    exact zr_throw_io (c9 := 1) (text := "no such net") C T zx_X6_netAt_io zx_X6_netAt_iok zx_X6_netAt_ioi (by decide) dX6_netAt_12 dX6_netAt_15 dX6_netAt_16 dX6_netAt_18 dX6_netAt_21 ⟨by decide, Nat.le_of_ble_eq_true rfl⟩ ⟨by decide, by decide⟩ rfl (fun hth => hthr 1 S (0, 0) 12 _ _ (by decide) (by decide) h hth)
  intro j2 hj3 h
  refine zr_if_lt (tgt := 12) C dX6_netAt_1 (by decide) rfl h (fun h => ?_) (fun h => ?_)
  · refine zr_sub [] rfl ?_
    exact hj3 () h
  · refine zr_iln C 1 dX6_netAt_4 rfl rfl rfl ?_
    refine zr_aln C 0 dX6_netAt_5 rfl rfl rfl ?_
    refine zg_X6_6 C zi_X6_netAt_X6 zm_X6_netAt_58 dX6_netAt_6 rfl ?_
    refine zr_icmp_lt (tgt := 22) C dX6_netAt_9 (by decide) rfl h (fun h => ?_) (fun h => ?_)
    · refine zr_aln C 0 dX6_netAt_22 rfl rfl rfl ?_
      refine zg_X6_4 C zi_X6_netAt_X6 zm_X6_netAt_49 dX6_netAt_23 rfl ?_
      refine zr_iln C 1 dX6_netAt_26 rfl rfl rfl ?_
      refine zl_C6 C dX6_netAt_27 rfl h (fun hn4 h => ?_)
      exact hret p1.toNatClampNeg S 28 _ (0, 0) (by decide) (by decide) dX6_netAt_28 hn4 h
    · refine zr_sub [] rfl ?_
      exact hj3 () h

def zf_X6_cellAt (N : Nat) (z : Nat) (S : zz_St) (p1 : Int32) (p2 : Int32) (p3 : Int32) : Option ((Int32 × zz_St) ⊕ (Nat × zz_St)) := zz_b1 (zf_X1_has N z S p1 p2 p3) (fun x1 => if x1 = 0 then (some (Sum.inr (1, S))) else (zz_b1 (zf_X1_numberOf N z S p1 p2 p3) (fun x2 => some (Sum.inl (x2, S)))))
theorem zi_X6_cellAt_X6 : ∀ w ∈ wsX60, w ∈ wsX6_cellAt := by decide +kernel
theorem zm_X6_cellAt_12 : Cond.fieldLink RX6 12 "GridRipUp" "grid" "LGridRipUp$Grid;" ∈ wsX6_cellAt := by decide +kernel
theorem zx_X6_cellAt_io : ∀ w ∈ (vx_atS RX6 107 "java/lang/IndexOutOfBoundsException" ["java/lang/RuntimeException", "java/lang/Exception"]).filter goodWord, w ∈ wsX6_cellAt := by decide +kernel
theorem zx_X6_cellAt_iok : Cond.classLink RX6 103 "java/lang/IndexOutOfBoundsException" ∈ wsX6_cellAt := by decide +kernel
theorem zx_X6_cellAt_ioi : Cond.initialized "java/lang/IndexOutOfBoundsException" ∈ wsX6_cellAt := by decide +kernel
theorem zd_X6_cellAt : yX6_cellAt.cls = RX6 ∧ yX6_cellAt.cls ≠ "java/lang/invoke/MethodHandle" ∧ yX6_cellAt.cls ≠ "java/lang/invoke/VarHandle" ∧ (parseMethodDescriptor yX6_cellAt.desc).map (fun d => d.parameters.length) = some 3 := by decide +kernel
set_option maxHeartbeats 4000000 in
set_option maxRecDepth 100000 in
theorem zc_X6_cellAt (N : Nat) (l : Launch) (D : va_G) (k : Nat → ClassId) {a : Nat → Nat} {z : Nat} (S : zz_St) (p1 : Int32) (p2 : Int32) (p3 : Int32)  (r : (Int32 × zz_St) ⊕ (Nat × zz_St)) (hst : l.stackTraces = false) (h : zf_X6_cellAt N z S p1 p2 p3 = some r) : zz_MX Value.int (fun _ => True) l yX6_cellAt wsX6_cellAt ({ frames := 6, cells := 1, slots := 6, locals := 90 } : Room) D k (zz_wC a k z) [.ref (a 0), .int p1, .int p2, .int p3] S r := by
  refine zz_metXI (cc := cX6_cellAt) (nL := 4) (ty := .int) hst (by decide) rfl (Nat.le_of_ble_eq_true rfl) ?_
  intro X C T hret hout hthr
  have C : zz_ok X cX6_cellAt RX6 wsX6_cellAt k 4 ({ frames := 6, cells := 1, slots := 6, locals := 90 } : Room) := C
  unfold zf_X6_cellAt at h
  show zz_ww X (0, 0) (zz_wC a k z S) 0 [(0, .ref (a 0)), (1, .int p1), (2, .int p2), (3, .int p3)] []
  refine zr_aln C 0 dX6_cellAt_0 rfl rfl rfl ?_
  refine zg_X6_0 C zi_X6_cellAt_X6 zm_X6_cellAt_12 dX6_cellAt_1 rfl ?_
  refine zr_iln C 1 dX6_cellAt_4 rfl rfl rfl ?_
  refine zr_iln C 2 dX6_cellAt_5 rfl rfl rfl ?_
  refine zr_iln C 3 dX6_cellAt_6 rfl rfl rfl ?_
  refine zr_cVir (wf := (zz_wC a k z)) (st := []) C (fun l D v hv => zc_X1_has N l D k (a := a) (z := z) S p1 p2 p3 v hv) gX6_cellAt_X1_has rfl zd_X1_has ⟨by decide, by decide⟩ ⟨by decide, by decide⟩ rfl ⟨1, 1, _, _, _, zk_C1, rfl⟩ (Nat.le_of_ble_eq_true rfl) rfl dX6_cellAt_7 rfl rfl h (fun x1 _ h => ?_)
  refine zr_if_ne (tgt := 23) C dX6_cellAt_10 (by decide) rfl h (fun h => ?_) (fun h => ?_)
  · refine zr_aln C 0 dX6_cellAt_23 rfl rfl rfl ?_
    refine zg_X6_0 C zi_X6_cellAt_X6 zm_X6_cellAt_12 dX6_cellAt_24 rfl ?_
    refine zr_iln C 1 dX6_cellAt_27 rfl rfl rfl ?_
    refine zr_iln C 2 dX6_cellAt_28 rfl rfl rfl ?_
    refine zr_iln C 3 dX6_cellAt_29 rfl rfl rfl ?_
    refine zr_cVir (wf := (zz_wC a k z)) (st := []) C (fun l D v hv => zc_X1_numberOf N l D k (a := a) (z := z) S p1 p2 p3 v hv) gX6_cellAt_X1_numberOf rfl zd_X1_numberOf ⟨by decide, by decide⟩ ⟨by decide, by decide⟩ rfl ⟨1, 1, _, _, _, zk_C1, rfl⟩ (Nat.le_of_ble_eq_true rfl) rfl dX6_cellAt_30 rfl rfl h (fun x2 _ h => ?_)
    exact hret x2 S 33 _ (0, 0) (by decide) (by decide) dX6_cellAt_33 rfl h
  · exact zr_throw_io (c9 := 1) (text := "no such cell") C T zx_X6_cellAt_io zx_X6_cellAt_iok zx_X6_cellAt_ioi (by decide) dX6_cellAt_13 dX6_cellAt_16 dX6_cellAt_17 dX6_cellAt_19 dX6_cellAt_22 ⟨by decide, Nat.le_of_ble_eq_true rfl⟩ ⟨by decide, by decide⟩ rfl (fun hth => hthr 1 S (0, 0) 13 _ _ (by decide) (by decide) h hth)

def zf_X6_bar (N : Nat) (z : Nat) (S : zz_St) (p1 : Int32) (p2 : Int32) (p3 : Int32) : Option ((Int32 × zz_St) ⊕ (Nat × zz_St)) := zz_bx (zf_X6_cellAt N z S p1 p2 p3) (fun x2 S1 => zz_let x2 (fun x4 => zz_gd (zz_in x4 z) (zz_jn1 (fun (u5 : Unit) => some (Sum.inl ((0 : Int32), S1))) (fun j6 => if (zz_ga S1 8 x4.toNatClampNeg) = 0 then (zz_gd (zz_in x4 z) (if (zz_ga S1 10 x4.toNatClampNeg) = ((-1 : Int32)) then (zz_gd (zz_in x4 z) (zz_let (zz_sa S1 8 (upd (zz_ga S1 8) x4.toNatClampNeg (vp_nar .boolean ((1 : Int32))))) (fun S8 => some (Sum.inl ((1 : Int32), S8))))) else (j6 ()))) else (j6 ())))))
theorem zi_X6_bar_X6 : ∀ w ∈ wsX60, w ∈ wsX6_bar := by decide +kernel
theorem zm_X6_bar_12 : Cond.fieldLink RX6 12 "GridRipUp" "grid" "LGridRipUp$Grid;" ∈ wsX6_bar := by decide +kernel
theorem zi_X6_bar_X1 : ∀ w ∈ wsX10, w ∈ wsX6_bar := by decide +kernel
theorem zm_X6_bar_72 : Cond.fieldLink RX6 72 "GridRipUp$Grid" "barred" "[Z" ∈ wsX6_bar := by decide +kernel
theorem zm_X6_bar_76 : Cond.fieldLink RX6 76 "GridRipUp$Grid" "holder" "[I" ∈ wsX6_bar := by decide +kernel
theorem zd_X6_bar : yX6_bar.cls = RX6 ∧ yX6_bar.cls ≠ "java/lang/invoke/MethodHandle" ∧ yX6_bar.cls ≠ "java/lang/invoke/VarHandle" ∧ (parseMethodDescriptor yX6_bar.desc).map (fun d => d.parameters.length) = some 3 := by decide +kernel
set_option maxHeartbeats 4000000 in
set_option maxRecDepth 100000 in
theorem zc_X6_bar (N : Nat) (l : Launch) (D : va_G) (k : Nat → ClassId) {a : Nat → Nat} {z : Nat} (S : zz_St) (p1 : Int32) (p2 : Int32) (p3 : Int32)  (r : (Int32 × zz_St) ⊕ (Nat × zz_St)) (hst : l.stackTraces = false) (h : zf_X6_bar N z S p1 p2 p3 = some r) : zz_MX Value.int (fun _ => True) l yX6_bar wsX6_bar ({ frames := 7, cells := 1, slots := 6, locals := 113 } : Room) D k (zz_wC a k z) [.ref (a 0), .int p1, .int p2, .int p3] S r := by
  refine zz_metXI (cc := cX6_bar) (nL := 5) (ty := .boolean) hst (by decide) rfl (Nat.le_of_ble_eq_true rfl) ?_
  intro X C T hret hout hthr
  have C : zz_ok X cX6_bar RX6 wsX6_bar k 5 ({ frames := 7, cells := 1, slots := 6, locals := 113 } : Room) := C
  unfold zf_X6_bar at h
  show zz_ww X (0, 0) (zz_wC a k z S) 0 [(0, .ref (a 0)), (1, .int p1), (2, .int p2), (3, .int p3)] []
  refine zr_aln C 0 dX6_bar_0 rfl rfl rfl ?_
  refine zr_iln C 1 dX6_bar_1 rfl rfl rfl ?_
  refine zr_iln C 2 dX6_bar_2 rfl rfl rfl ?_
  refine zr_iln C 3 dX6_bar_3 rfl rfl rfl ?_
  refine zr_cX (wf := (zz_wC a k z)) (st := []) C T (fun l D r hl hr => zc_X6_cellAt N l D k (a := a) (z := z) S p1 p2 p3 r hl hr) gX6_bar_X6_cellAt rfl zd_X6_cellAt ⟨by decide, by decide⟩ ⟨by decide, by decide⟩ rfl ⟨0, 6, _, _, _, zk_C0, rfl⟩ (Nat.le_of_ble_eq_true rfl) rfl dX6_bar_4 rfl rfl h (fun c9 u _ h => hout c9 u _ (by decide) (by decide) h) (fun x2 S1 hn3 _ h => ?_)
  refine zr_is C [1, 2, 3, 4, 0] dX6_bar_7 rfl (by decide) (fun x4 => [(0, .ref (a 0)), (1, .int p1), (2, .int p2), (3, .int p3), (4, .int x4)]) h (fun _ => rfl) (fun x4 h => ?_)
  refine zr_aln C 0 dX6_bar_9 rfl rfl rfl ?_
  refine zg_X6_0 C zi_X6_bar_X6 zm_X6_bar_12 dX6_bar_10 rfl ?_
  refine zg_X1_5 C zi_X6_bar_X1 zm_X6_bar_72 dX6_bar_13 rfl ?_
  refine zr_il C 4 dX6_bar_16 rfl rfl ?_
  refine zl_C8 C dX6_bar_18 rfl h (fun h => ?_)
  refine zz_jn1_W h (fun (u5 : Unit) => zz_ww X (1, 6) (zz_wC a k z S1) 36 [] []) ?_ ?_
  · intro u5 h
    refine zr_ic (v := (0 : Int32)) C dX6_bar_36 (by decide) rfl ?_
    exact hret ((0 : Int32)) S1 37 _ (1, 6) (by decide) (by decide) dX6_bar_37 rfl h
  intro j6 hj7 h
  refine zr_if_ne (tgt := 36) C dX6_bar_19 (by decide) rfl h (fun h => ?_) (fun h => ?_)
  · refine zr_sub [] rfl ?_
    exact hj7 () h
  · refine zr_aln C 0 dX6_bar_22 rfl rfl rfl ?_
    refine zg_X6_0 C zi_X6_bar_X6 zm_X6_bar_12 dX6_bar_23 rfl ?_
    refine zg_X1_7 C zi_X6_bar_X1 zm_X6_bar_76 dX6_bar_26 rfl ?_
    refine zr_il C 4 dX6_bar_29 rfl rfl ?_
    refine zl_C10 C dX6_bar_31 rfl h (fun h => ?_)
    refine zr_ic (v := (-1 : Int32)) C dX6_bar_32 (by decide) rfl ?_
    refine zr_icmp_eq (tgt := 38) C dX6_bar_33 (by decide) rfl h (fun h => ?_) (fun h => ?_)
    · refine zr_aln C 0 dX6_bar_38 rfl rfl rfl ?_
      refine zg_X6_0 C zi_X6_bar_X6 zm_X6_bar_12 dX6_bar_39 rfl ?_
      refine zg_X1_5 C zi_X6_bar_X1 zm_X6_bar_72 dX6_bar_42 rfl ?_
      refine zr_il C 4 dX6_bar_45 rfl rfl ?_
      refine zr_ic (v := (1 : Int32)) C dX6_bar_47 (by decide) rfl ?_
      refine zs_C8 C dX6_bar_48 rfl h (fun S8 h => ?_)
      refine zr_ic (v := (1 : Int32)) C dX6_bar_49 (by decide) rfl ?_
      exact hret ((1 : Int32)) S8 50 _ (1, 6) (by decide) (by decide) dX6_bar_50 rfl h
    · refine zr_sub [] rfl ?_
      exact hj7 () h

def zf_X6_pin (N : Nat) (z : Nat) (S : zz_St) (p1 : Int32) (p2 : Int32) (p3 : Int32) (p4 : Int32) : Option ((Int32 × zz_St) ⊕ (Nat × zz_St)) := zz_bx (zf_X6_netAt N z S p1) (fun x2 S1 => zz_bx (zf_X6_cellAt N z S1 p2 p3 p4) (fun x5 S4 => zz_let x5 (fun x7 => zz_gd (zz_in x7 z) (zz_jn1 (fun (u8 : Unit) => some (Sum.inl ((0 : Int32), S4))) (fun j9 => if (zz_ga S4 8 x7.toNatClampNeg) = 0 then (zz_gd (zz_in x7 z) (if (zz_ga S4 9 x7.toNatClampNeg) = 0 then (zz_b1 (zf_X1_heldByOther N z S4 x7 p1) (fun x11 => if x11 = 0 then (zz_b1 (zf_X2_hasRoom N z S4 x2) (fun x12 => if x12 = 0 then (j9 ()) else (zz_b1 (zf_X6_layOpen N z S4 p1) (fun S13 => zz_b1 (zf_X2_addPin N z S13 x2 x7) (fun S14 => zz_gd (zz_in x7 z) (zz_let (zz_sa S14 9 (upd (zz_ga S14 9) x7.toNatClampNeg (vp_nar .boolean ((1 : Int32))))) (fun S15 => zz_gd (zz_in x7 z) (zz_let (zz_sa S15 10 (upd (zz_ga S15 10) x7.toNatClampNeg p1)) (fun S16 => some (Sum.inl ((1 : Int32), S16))))))))))) else (j9 ()))) else (j9 ()))) else (j9 ()))))))
theorem zi_X6_pin_X6 : ∀ w ∈ wsX60, w ∈ wsX6_pin := by decide +kernel
theorem zm_X6_pin_12 : Cond.fieldLink RX6 12 "GridRipUp" "grid" "LGridRipUp$Grid;" ∈ wsX6_pin := by decide +kernel
theorem zi_X6_pin_X1 : ∀ w ∈ wsX10, w ∈ wsX6_pin := by decide +kernel
theorem zm_X6_pin_72 : Cond.fieldLink RX6 72 "GridRipUp$Grid" "barred" "[Z" ∈ wsX6_pin := by decide +kernel
theorem zm_X6_pin_83 : Cond.fieldLink RX6 83 "GridRipUp$Grid" "pinned" "[Z" ∈ wsX6_pin := by decide +kernel
theorem zm_X6_pin_76 : Cond.fieldLink RX6 76 "GridRipUp$Grid" "holder" "[I" ∈ wsX6_pin := by decide +kernel
theorem zd_X6_pin : yX6_pin.cls = RX6 ∧ yX6_pin.cls ≠ "java/lang/invoke/MethodHandle" ∧ yX6_pin.cls ≠ "java/lang/invoke/VarHandle" ∧ (parseMethodDescriptor yX6_pin.desc).map (fun d => d.parameters.length) = some 4 := by decide +kernel
set_option maxHeartbeats 4000000 in
set_option maxRecDepth 100000 in
theorem zc_X6_pin (N : Nat) (l : Launch) (D : va_G) (k : Nat → ClassId) {a : Nat → Nat} {z : Nat} (S : zz_St) (p1 : Int32) (p2 : Int32) (p3 : Int32) (p4 : Int32)  (r : (Int32 × zz_St) ⊕ (Nat × zz_St)) (hst : l.stackTraces = false) (h : zf_X6_pin N z S p1 p2 p3 p4 = some r) : zz_MX Value.int (fun _ => True) l yX6_pin wsX6_pin ({ frames := 7, cells := 2, slots := 12, locals := 113 } : Room) D k (zz_wC a k z) [.ref (a 0), .int p1, .int p2, .int p3, .int p4] S r := by
  refine zz_metXI (cc := cX6_pin) (nL := 7) (ty := .boolean) hst (by decide) rfl (Nat.le_of_ble_eq_true rfl) ?_
  intro X C T hret hout hthr
  have C : zz_ok X cX6_pin RX6 wsX6_pin k 7 ({ frames := 7, cells := 2, slots := 12, locals := 113 } : Room) := C
  unfold zf_X6_pin at h
  show zz_ww X (0, 0) (zz_wC a k z S) 0 [(0, .ref (a 0)), (1, .int p1), (2, .int p2), (3, .int p3), (4, .int p4)] []
  refine zr_aln C 0 dX6_pin_0 rfl rfl rfl ?_
  refine zr_iln C 1 dX6_pin_1 rfl rfl rfl ?_
  refine zr_cX (wf := (zz_wC a k z)) (st := []) C T (fun l D r hl hr => zc_X6_netAt N l D k (a := a) (z := z) S p1 r hl hr) gX6_pin_X6_netAt rfl zd_X6_netAt ⟨by decide, by decide⟩ ⟨by decide, by decide⟩ rfl ⟨0, 6, _, _, _, zk_C0, rfl⟩ (Nat.le_of_ble_eq_true rfl) rfl dX6_pin_2 rfl rfl h (fun c9 u _ h => hout c9 u _ (by decide) (by decide) h) (fun x2 S1 hn3 _ h => ?_)
  refine zr_as C [1, 2, 3, 4, 5, 0] dX6_pin_5 rfl (by decide) rfl ?_
  refine zr_aln C 0 dX6_pin_7 rfl rfl rfl ?_
  refine zr_iln C 2 dX6_pin_8 rfl rfl rfl ?_
  refine zr_iln C 3 dX6_pin_9 rfl rfl rfl ?_
  refine zr_il C 4 dX6_pin_10 rfl rfl ?_
  refine zr_cX (wf := (zz_wC a k z)) (st := []) C T (fun l D r hl hr => zc_X6_cellAt N l D k (a := a) (z := z) S1 p2 p3 p4 r hl hr) gX6_pin_X6_cellAt rfl zd_X6_cellAt ⟨by decide, by decide⟩ ⟨by decide, by decide⟩ rfl ⟨0, 6, _, _, _, zk_C0, rfl⟩ (Nat.le_of_ble_eq_true rfl) rfl dX6_pin_12 rfl rfl h (fun c9 u _ h => hout c9 u _ (by decide) (by decide) h) (fun x5 S4 hn6 _ h => ?_)
  refine zr_is C [1, 2, 3, 4, 5, 6, 0] dX6_pin_15 rfl (by decide) (fun x7 => [(0, .ref (a 0)), (1, .int p1), (2, .int p2), (3, .int p3), (4, .int p4), (5, .ref (a (21 + x2))), (6, .int x7)]) h (fun _ => rfl) (fun x7 h => ?_)
  refine zr_aln C 0 dX6_pin_17 rfl rfl rfl ?_
  refine zg_X6_0 C zi_X6_pin_X6 zm_X6_pin_12 dX6_pin_18 rfl ?_
  refine zg_X1_5 C zi_X6_pin_X1 zm_X6_pin_72 dX6_pin_21 rfl ?_
  refine zr_il C 6 dX6_pin_24 rfl rfl ?_
  refine zl_C8 C dX6_pin_26 rfl h (fun h => ?_)
  refine zz_jn1_W h (fun (u8 : Unit) => zz_ww X (2, 12) (zz_wC a k z S4) 64 [] []) ?_ ?_
  · intro u8 h
    refine zr_ic (v := (0 : Int32)) C dX6_pin_64 (by decide) rfl ?_
    exact hret ((0 : Int32)) S4 65 _ (2, 12) (by decide) (by decide) dX6_pin_65 rfl h
  intro j9 hj10 h
  refine zr_if_ne (tgt := 64) C dX6_pin_27 (by decide) rfl h (fun h => ?_) (fun h => ?_)
  · refine zr_sub [] rfl ?_
    exact hj10 () h
  · refine zr_aln C 0 dX6_pin_30 rfl rfl rfl ?_
    refine zg_X6_0 C zi_X6_pin_X6 zm_X6_pin_12 dX6_pin_31 rfl ?_
    refine zg_X1_6 C zi_X6_pin_X1 zm_X6_pin_83 dX6_pin_34 rfl ?_
    refine zr_il C 6 dX6_pin_37 rfl rfl ?_
    refine zl_C9 C dX6_pin_39 rfl h (fun h => ?_)
    refine zr_if_ne (tgt := 64) C dX6_pin_40 (by decide) rfl h (fun h => ?_) (fun h => ?_)
    · refine zr_sub [] rfl ?_
      exact hj10 () h
    · refine zr_aln C 0 dX6_pin_43 rfl rfl rfl ?_
      refine zg_X6_0 C zi_X6_pin_X6 zm_X6_pin_12 dX6_pin_44 rfl ?_
      refine zr_il C 6 dX6_pin_47 rfl rfl ?_
      refine zr_iln C 1 dX6_pin_49 rfl rfl rfl ?_
      refine zr_cVir (wf := (zz_wC a k z)) (st := []) C (fun l D v hv => zc_X1_heldByOther N l D k (a := a) (z := z) S4 x7 p1 v hv) gX6_pin_X1_heldByOther rfl zd_X1_heldByOther ⟨by decide, by decide⟩ ⟨by decide, by decide⟩ rfl ⟨1, 1, _, _, _, zk_C1, rfl⟩ (Nat.le_of_ble_eq_true rfl) rfl dX6_pin_50 rfl rfl h (fun x11 _ h => ?_)
      refine zr_if_ne (tgt := 64) C dX6_pin_53 (by decide) rfl h (fun h => ?_) (fun h => ?_)
      · refine zr_sub [] rfl ?_
        exact hj10 () h
      · refine zr_al C 5 dX6_pin_56 rfl rfl ?_
        refine zr_cVir (wf := (zz_wC a k z)) (st := []) C (fun l D v hv => zc_X2_hasRoom N l D k (a := a) (z := z) S4 x2 hn3 v hv) gX6_pin_X2_hasRoom rfl zd_X2_hasRoom ⟨by decide, by decide⟩ ⟨by decide, by decide⟩ rfl ⟨21 + x2, 2, _, _, _, zk_Cn hn3, rfl⟩ (Nat.le_of_ble_eq_true rfl) rfl dX6_pin_58 rfl rfl h (fun x12 _ h => ?_)
        refine zr_if_ne (tgt := 66) C dX6_pin_61 (by decide) rfl h (fun h => ?_) (fun h => ?_)
        · refine zr_aln C 0 dX6_pin_66 rfl rfl rfl ?_
          refine zr_iln C 1 dX6_pin_67 rfl rfl rfl ?_
          refine zr_cVv (wf := (zz_wC a k z)) (st := []) C (fun l D u hu => zc_X6_layOpen N l D k (a := a) (z := z) S4 p1 u hu) gX6_pin_X6_layOpen rfl zd_X6_layOpen ⟨by decide, by decide⟩ ⟨by decide, by decide⟩ rfl ⟨0, 6, _, _, _, zk_C0, rfl⟩ (Nat.le_of_ble_eq_true rfl) rfl dX6_pin_68 rfl rfl h (fun S13 _ h => ?_)
          refine zr_al C 5 dX6_pin_71 rfl rfl ?_
          refine zr_il C 6 dX6_pin_73 rfl rfl ?_
          refine zr_cVv (wf := (zz_wC a k z)) (st := []) C (fun l D u hu => zc_X2_addPin N l D k (a := a) (z := z) S13 x2 x7 hn3 u hu) gX6_pin_X2_addPin rfl zd_X2_addPin ⟨by decide, by decide⟩ ⟨by decide, by decide⟩ rfl ⟨21 + x2, 2, _, _, _, zk_Cn hn3, rfl⟩ (Nat.le_of_ble_eq_true rfl) rfl dX6_pin_75 rfl rfl h (fun S14 _ h => ?_)
          refine zr_aln C 0 dX6_pin_78 rfl rfl rfl ?_
          refine zg_X6_0 C zi_X6_pin_X6 zm_X6_pin_12 dX6_pin_79 rfl ?_
          refine zg_X1_6 C zi_X6_pin_X1 zm_X6_pin_83 dX6_pin_82 rfl ?_
          refine zr_il C 6 dX6_pin_85 rfl rfl ?_
          refine zr_ic (v := (1 : Int32)) C dX6_pin_87 (by decide) rfl ?_
          refine zs_C9 C dX6_pin_88 rfl h (fun S15 h => ?_)
          refine zr_aln C 0 dX6_pin_89 rfl rfl rfl ?_
          refine zg_X6_0 C zi_X6_pin_X6 zm_X6_pin_12 dX6_pin_90 rfl ?_
          refine zg_X1_7 C zi_X6_pin_X1 zm_X6_pin_76 dX6_pin_93 rfl ?_
          refine zr_il C 6 dX6_pin_96 rfl rfl ?_
          refine zr_iln C 1 dX6_pin_98 rfl rfl rfl ?_
          refine zs_C10 C dX6_pin_99 rfl h (fun S16 h => ?_)
          refine zr_ic (v := (1 : Int32)) C dX6_pin_100 (by decide) rfl ?_
          exact hret ((1 : Int32)) S16 101 _ (2, 12) (by decide) (by decide) dX6_pin_101 rfl h
        · refine zr_sub [] rfl ?_
          exact hj10 () h

def zf_X6_cost (N : Nat) (z : Nat) (S : zz_St) (p1 : Int32) (p2 : Int32) (p3 : Int32) (p4 : Int32) : Option ((Int32 × zz_St) ⊕ (Nat × zz_St)) := zz_jn1 (fun (u1 : Unit) => some (Sum.inr (1, S))) (fun j2 => if p1 < 0 then (j2 ()) else (if p1 < (zz_gi S 4) then (zz_b1 (zf_X6_isPrice N p2) (fun x4 => zz_jn1 (fun (u5 : Unit) => some (Sum.inr (2, S))) (fun j6 => if x4 = 0 then (j6 ()) else (zz_b1 (zf_X6_isPrice N p3) (fun x8 => if x8 = 0 then (j6 ()) else (zz_b1 (zf_X6_isPrice N p4) (fun x9 => if x9 = 0 then (j6 ()) else (zz_b2 (zf_X3_change N z S p1 p2 p3 p4) (fun x11 S10 => zz_gd (zz_bl x11) (some (Sum.inl (x11, S10)))))))))))) else (j2 ())))
theorem zx_X6_cost_io : ∀ w ∈ (vx_atS RX6 107 "java/lang/IndexOutOfBoundsException" ["java/lang/RuntimeException", "java/lang/Exception"]).filter goodWord, w ∈ wsX6_cost := by decide +kernel
theorem zx_X6_cost_iok : Cond.classLink RX6 103 "java/lang/IndexOutOfBoundsException" ∈ wsX6_cost := by decide +kernel
theorem zx_X6_cost_ioi : Cond.initialized "java/lang/IndexOutOfBoundsException" ∈ wsX6_cost := by decide +kernel
theorem zi_X6_cost_X6 : ∀ w ∈ wsX60, w ∈ wsX6_cost := by decide +kernel
theorem zm_X6_cost_12 : Cond.fieldLink RX6 12 "GridRipUp" "grid" "LGridRipUp$Grid;" ∈ wsX6_cost := by decide +kernel
theorem zi_X6_cost_X1 : ∀ w ∈ wsX10, w ∈ wsX6_cost := by decide +kernel
theorem zm_X6_cost_100 : Cond.fieldLink RX6 100 "GridRipUp$Grid" "layers" "I" ∈ wsX6_cost := by decide +kernel
theorem zx_X6_cost_ia : ∀ w ∈ (vx_atS RX6 118 "java/lang/IllegalArgumentException" ["java/lang/RuntimeException", "java/lang/Exception"]).filter goodWord, w ∈ wsX6_cost := by decide +kernel
theorem zx_X6_cost_iak : Cond.classLink RX6 114 "java/lang/IllegalArgumentException" ∈ wsX6_cost := by decide +kernel
theorem zx_X6_cost_iai : Cond.initialized "java/lang/IllegalArgumentException" ∈ wsX6_cost := by decide +kernel
theorem zm_X6_cost_21 : Cond.fieldLink RX6 21 "GridRipUp" "prices" "LGridRipUp$Prices;" ∈ wsX6_cost := by decide +kernel
theorem zd_X6_cost : yX6_cost.cls = RX6 ∧ yX6_cost.cls ≠ "java/lang/invoke/MethodHandle" ∧ yX6_cost.cls ≠ "java/lang/invoke/VarHandle" ∧ (parseMethodDescriptor yX6_cost.desc).map (fun d => d.parameters.length) = some 4 := by decide +kernel
set_option maxHeartbeats 4000000 in
set_option maxRecDepth 100000 in
theorem zc_X6_cost (N : Nat) (l : Launch) (D : va_G) (k : Nat → ClassId) {a : Nat → Nat} {z : Nat} (S : zz_St) (p1 : Int32) (p2 : Int32) (p3 : Int32) (p4 : Int32)  (r : (Int32 × zz_St) ⊕ (Nat × zz_St)) (hst : l.stackTraces = false) (h : zf_X6_cost N z S p1 p2 p3 p4 = some r) : zz_MX Value.int (fun _ => True) l yX6_cost wsX6_cost ({ frames := 6, cells := 1, slots := 6, locals := 90 } : Room) D k (zz_wC a k z) [.ref (a 0), .int p1, .int p2, .int p3, .int p4] S r := by
  refine zz_metXI (cc := cX6_cost) (nL := 5) (ty := .boolean) hst (by decide) rfl (Nat.le_of_ble_eq_true rfl) ?_
  intro X C T hret hout hthr
  have C : zz_ok X cX6_cost RX6 wsX6_cost k 5 ({ frames := 6, cells := 1, slots := 6, locals := 90 } : Room) := C
  unfold zf_X6_cost at h
  show zz_ww X (0, 0) (zz_wC a k z S) 0 [(0, .ref (a 0)), (1, .int p1), (2, .int p2), (3, .int p3), (4, .int p4)] []
  refine zr_iln C 1 dX6_cost_0 rfl rfl rfl ?_
  refine zz_jn1_W h (fun (u1 : Unit) => zz_ww X (0, 0) (zz_wC a k z S) 15 [] []) ?_ ?_
  · intro u1 h
    exact zr_throw_io (c9 := 1) (text := "no such layer") C T zx_X6_cost_io zx_X6_cost_iok zx_X6_cost_ioi (by decide) dX6_cost_15 dX6_cost_18 dX6_cost_19 dX6_cost_21 dX6_cost_24 ⟨by decide, Nat.le_of_ble_eq_true rfl⟩ ⟨by decide, by decide⟩ rfl (fun hth => hthr 1 S (0, 0) 15 _ _ (by decide) (by decide) h hth)
  intro j2 hj3 h
  refine zr_if_lt (tgt := 15) C dX6_cost_1 (by decide) rfl h (fun h => ?_) (fun h => ?_)
  · refine zr_sub [] rfl ?_
    exact hj3 () h
  · refine zr_iln C 1 dX6_cost_4 rfl rfl rfl ?_
    refine zr_aln C 0 dX6_cost_5 rfl rfl rfl ?_
    refine zg_X6_0 C zi_X6_cost_X6 zm_X6_cost_12 dX6_cost_6 rfl ?_
    refine zg_X1_2 C zi_X6_cost_X1 zm_X6_cost_100 dX6_cost_9 rfl ?_
    refine zr_icmp_lt (tgt := 25) C dX6_cost_12 (by decide) rfl h (fun h => ?_) (fun h => ?_)
    · refine zr_iln C 2 dX6_cost_25 rfl rfl rfl ?_
      refine zr_cSir (wf := (zz_wC a k z)) (st := []) C (fun l D v hv => zc_X6_isPrice N l D k (wf := (zz_wC a k z)) S p2 v hv) gX6_cost_X6_isPrice rfl zd_X6_isPrice ⟨by decide, by decide⟩ ⟨by decide, by decide⟩ rfl (Nat.le_of_ble_eq_true rfl) rfl dX6_cost_26 rfl rfl h (fun x4 _ h => ?_)
      refine zz_jn1_W h (fun (u5 : Unit) => zz_ww X (0, 0) (zz_wC a k z S) 47 [] []) ?_ ?_
      · intro u5 h
        exact zr_throw_ia (c9 := 2) (text := "a cost is not 0 .. 50") C T zx_X6_cost_ia zx_X6_cost_iak zx_X6_cost_iai (by decide) dX6_cost_47 dX6_cost_50 dX6_cost_51 dX6_cost_53 dX6_cost_56 ⟨by decide, Nat.le_of_ble_eq_true rfl⟩ ⟨by decide, by decide⟩ rfl (fun hth => hthr 2 S (0, 0) 47 _ _ (by decide) (by decide) h hth)
      intro j6 hj7 h
      refine zr_if_eq (tgt := 47) C dX6_cost_29 (by decide) rfl h (fun h => ?_) (fun h => ?_)
      · refine zr_sub [] rfl ?_
        exact hj7 () h
      · refine zr_iln C 3 dX6_cost_32 rfl rfl rfl ?_
        refine zr_cSir (wf := (zz_wC a k z)) (st := []) C (fun l D v hv => zc_X6_isPrice N l D k (wf := (zz_wC a k z)) S p3 v hv) gX6_cost_X6_isPrice rfl zd_X6_isPrice ⟨by decide, by decide⟩ ⟨by decide, by decide⟩ rfl (Nat.le_of_ble_eq_true rfl) rfl dX6_cost_33 rfl rfl h (fun x8 _ h => ?_)
        refine zr_if_eq (tgt := 47) C dX6_cost_36 (by decide) rfl h (fun h => ?_) (fun h => ?_)
        · refine zr_sub [] rfl ?_
          exact hj7 () h
        · refine zr_il C 4 dX6_cost_39 rfl rfl ?_
          refine zr_cSir (wf := (zz_wC a k z)) (st := []) C (fun l D v hv => zc_X6_isPrice N l D k (wf := (zz_wC a k z)) S p4 v hv) gX6_cost_X6_isPrice rfl zd_X6_isPrice ⟨by decide, by decide⟩ ⟨by decide, by decide⟩ rfl (Nat.le_of_ble_eq_true rfl) rfl dX6_cost_41 rfl rfl h (fun x9 _ h => ?_)
          refine zr_if_ne (tgt := 57) C dX6_cost_44 (by decide) rfl h (fun h => ?_) (fun h => ?_)
          · refine zr_aln C 0 dX6_cost_57 rfl rfl rfl ?_
            refine zg_X6_1 C zi_X6_cost_X6 zm_X6_cost_21 dX6_cost_58 rfl ?_
            refine zr_iln C 1 dX6_cost_61 rfl rfl rfl ?_
            refine zr_iln C 2 dX6_cost_62 rfl rfl rfl ?_
            refine zr_iln C 3 dX6_cost_63 rfl rfl rfl ?_
            refine zr_il C 4 dX6_cost_64 rfl rfl ?_
            refine zr_cVi (wf := (zz_wC a k z)) (st := []) C (fun l D v u hu => zc_X3_change N l D k (a := a) (z := z) S p1 p2 p3 p4 v u hu) gX6_cost_X3_change rfl zd_X3_change ⟨by decide, by decide⟩ ⟨by decide, by decide⟩ rfl ⟨2, 3, _, _, _, zk_C2, rfl⟩ (Nat.le_of_ble_eq_true rfl) rfl dX6_cost_66 rfl rfl h (fun x11 S10 _ h => ?_)
            obtain ⟨hb, h⟩ := zz_gd_some h
            exact hret x11 S10 69 _ (0, 0) (by decide) (by decide) dX6_cost_69 (zz_bl_nar hb) h
          · refine zr_sub [] rfl ?_
            exact hj7 () h
    · refine zr_sub [] rfl ?_
      exact hj3 () h

def zf_X6_run (N : Nat) (z : Nat) (S : zz_St) (p1 : Int32) : Option ((Int32 × zz_St) ⊕ (Nat × zz_St)) := zz_jn1 (fun (u1 : Unit) => some (Sum.inr (2, S))) (fun j2 => if p1 < ((1 : Int32)) then (j2 ()) else (if p1 ≤ ((20 : Int32)) then (zz_let ((0 : Int32)) (fun x4 => zz_fix2 (fun rc7 (v5 : Int32) (S6 : zz_St) => zz_jn1 (fun (u9 : Unit) => zz_b1 (zf_X6_openNets N z S6) (fun x12 => zz_b1 (zf_J6_bitCount_0f7a4 N x12) (fun x13 => some (Sum.inl (x13, S6))))) (fun j10 => if p1 ≤ v5 then (j10 ()) else (zz_b1 (zf_X6_openNets N z S6) (fun x14 => if x14 = 0 then (j10 ()) else (zz_b1 (zf_X6_playRound N z S6) (fun S15 => zz_let (v5 + (1 : Int32)) (fun x16 => rc7 x16 S15))))))) N x4 S)) else (j2 ())))
theorem zx_X6_run_ia : ∀ w ∈ (vx_atS RX6 118 "java/lang/IllegalArgumentException" ["java/lang/RuntimeException", "java/lang/Exception"]).filter goodWord, w ∈ wsX6_run := by decide +kernel
theorem zx_X6_run_iak : Cond.classLink RX6 114 "java/lang/IllegalArgumentException" ∈ wsX6_run := by decide +kernel
theorem zx_X6_run_iai : Cond.initialized "java/lang/IllegalArgumentException" ∈ wsX6_run := by decide +kernel
theorem zd_X6_run : yX6_run.cls = RX6 ∧ yX6_run.cls ≠ "java/lang/invoke/MethodHandle" ∧ yX6_run.cls ≠ "java/lang/invoke/VarHandle" ∧ (parseMethodDescriptor yX6_run.desc).map (fun d => d.parameters.length) = some 1 := by decide +kernel
set_option maxHeartbeats 4000000 in
set_option maxRecDepth 100000 in
theorem zc_X6_run (N : Nat) (l : Launch) (D : va_G) (k : Nat → ClassId) {a : Nat → Nat} {z : Nat} (S : zz_St) (p1 : Int32)  (r : (Int32 × zz_St) ⊕ (Nat × zz_St)) (hst : l.stackTraces = false) (h : zf_X6_run N z S p1 = some r) : zz_MX Value.int (fun _ => True) l yX6_run wsX6_run ({ frames := 6, cells := 1, slots := 6, locals := 143 } : Room) D k (zz_wC a k z) [.ref (a 0), .int p1] S r := by
  refine zz_metXI (cc := cX6_run) (nL := 3) (ty := .int) hst (by decide) rfl (Nat.le_of_ble_eq_true rfl) ?_
  intro X C T hret hout hthr
  have C : zz_ok X cX6_run RX6 wsX6_run k 3 ({ frames := 6, cells := 1, slots := 6, locals := 143 } : Room) := C
  unfold zf_X6_run at h
  show zz_ww X (0, 0) (zz_wC a k z S) 0 [(0, .ref (a 0)), (1, .int p1)] []
  refine zr_iln C 1 dX6_run_0 rfl rfl rfl ?_
  refine zr_ic (v := (1 : Int32)) C dX6_run_1 (by decide) rfl ?_
  refine zz_jn1_W h (fun (u1 : Unit) => zz_ww X (0, 0) (zz_wC a k z S) 11 [] []) ?_ ?_
  · intro u1 h
    exact zr_throw_ia (c9 := 2) (text := "rounds are not 1 .. 20") C T zx_X6_run_ia zx_X6_run_iak zx_X6_run_iai (by decide) dX6_run_11 dX6_run_14 dX6_run_15 dX6_run_17 dX6_run_20 ⟨by decide, Nat.le_of_ble_eq_true rfl⟩ ⟨by decide, by decide⟩ rfl (fun hth => hthr 2 S (0, 0) 11 _ _ (by decide) (by decide) h hth)
  intro j2 hj3 h
  refine zr_icmp_lt (tgt := 11) C dX6_run_2 (by decide) rfl h (fun h => ?_) (fun h => ?_)
  · refine zr_sub [] rfl ?_
    exact hj3 () h
  · refine zr_iln C 1 dX6_run_5 rfl rfl rfl ?_
    refine zr_bi (v := (20 : Int32)) C dX6_run_6 (by decide) rfl ?_
    refine zr_icmp_le (tgt := 21) C dX6_run_8 (by decide) rfl h (fun h => ?_) (fun h => ?_)
    · refine zr_ic (v := (0 : Int32)) C dX6_run_21 (by decide) rfl ?_
      refine zr_isn C [1, 2, 0] dX6_run_22 rfl rfl (by decide) (fun x4 => [(0, .ref (a 0)), (1, .int p1), (2, .int x4)]) h (fun _ => rfl) (fun x4 h => ?_)
      refine zz_fix2_W (fun (v5 : Int32) (S6 : zz_St) => zz_ww X (0, 0) (zz_wC a k z S6) 23 [(0, .ref (a 0)), (1, .int p1), (2, .int v5)] []) ?_ N x4 S h
      intro rc7 hr8 v5 S6 h
      refine zr_iln C 2 dX6_run_23 rfl rfl rfl ?_
      refine zr_iln C 1 dX6_run_24 rfl rfl rfl ?_
      refine zz_jn1_W h (fun (u9 : Unit) => zz_ww X (0, 0) (zz_wC a k z S6) 45 [(0, .ref (a 0))] []) ?_ ?_
      · intro u9 h
        refine zr_aln C 0 dX6_run_45 rfl rfl rfl ?_
        refine zr_cVir (wf := (zz_wC a k z)) (st := []) C (fun l D v hv => zc_X6_openNets N l D k (a := a) (z := z) S6  v hv) gX6_run_X6_openNets rfl zd_X6_openNets ⟨by decide, by decide⟩ ⟨by decide, by decide⟩ rfl ⟨0, 6, _, _, _, zk_C0, rfl⟩ (Nat.le_of_ble_eq_true rfl) rfl dX6_run_46 rfl rfl h (fun x12 _ h => ?_)
        refine zr_cSir (wf := (zz_wC a k z)) (st := []) C (fun l D v hv => zc_J6_bitCount_0f7a4 N l D k (wf := (zz_wC a k z)) S6 x12 v hv) gX6_run_J6_bitCount_0f7a4 rfl zd_J6_bitCount_0f7a4 ⟨by decide, by decide⟩ ⟨by decide, by decide⟩ rfl (Nat.le_of_ble_eq_true rfl) rfl dX6_run_49 rfl rfl h (fun x13 _ h => ?_)
        exact hret x13 S6 52 _ (0, 0) (by decide) (by decide) dX6_run_52 rfl h
      intro j10 hj11 h
      refine zr_icmp_ge (tgt := 45) C dX6_run_25 (by decide) rfl h (fun h => ?_) (fun h => ?_)
      · refine zr_sub [0] rfl ?_
        exact hj11 () h
      · refine zr_aln C 0 dX6_run_28 rfl rfl rfl ?_
        refine zr_cVir (wf := (zz_wC a k z)) (st := []) C (fun l D v hv => zc_X6_openNets N l D k (a := a) (z := z) S6  v hv) gX6_run_X6_openNets rfl zd_X6_openNets ⟨by decide, by decide⟩ ⟨by decide, by decide⟩ rfl ⟨0, 6, _, _, _, zk_C0, rfl⟩ (Nat.le_of_ble_eq_true rfl) rfl dX6_run_29 rfl rfl h (fun x14 _ h => ?_)
        refine zr_if_eq (tgt := 45) C dX6_run_32 (by decide) rfl h (fun h => ?_) (fun h => ?_)
        · refine zr_sub [0] rfl ?_
          exact hj11 () h
        · refine zr_aln C 0 dX6_run_35 rfl rfl rfl ?_
          refine zr_cVv (wf := (zz_wC a k z)) (st := []) C (fun l D u hu => zc_X6_playRound N l D k (a := a) (z := z) S6  u hu) gX6_run_X6_playRound rfl zd_X6_playRound ⟨by decide, by decide⟩ ⟨by decide, by decide⟩ rfl ⟨0, 6, _, _, _, zk_C0, rfl⟩ (Nat.le_of_ble_eq_true rfl) rfl dX6_run_36 rfl rfl h (fun S15 _ h => ?_)
          refine zr_iinc (v := (1 : Int32)) C 2 [1, 2, 0] dX6_run_39 rfl (by decide) rfl (by decide) (fun x16 => [(0, .ref (a 0)), (1, .int p1), (2, .int x16)]) h (fun _ => rfl) (fun x16 h => ?_)
          refine zr_goto (tgt := 23) C dX6_run_42 (by decide) ?_
          exact hr8 x16 S15 h
    · refine zr_sub [] rfl ?_
      exact hj3 () h

def zf_X6_piece (N : Nat) (z : Nat) (S : zz_St) (p1 : Int32) (p2 : Int32) (p3 : Int32) : Option ((Int32 × zz_St) ⊕ (Nat × zz_St)) := zz_bx (zf_X6_netAt N z S p1) (fun x2 S1 => zz_jn1 (fun (v4 : Int32) => zz_let v4 (fun x7 => zz_jn1 (fun (u8 : Unit) => some (Sum.inr (1, S1))) (fun j9 => if x7 = ((-1 : Int32)) then (j9 ()) else (if p3 < 0 then (j9 ()) else (if p3 ≤ ((2 : Int32)) then (if p3 = 0 then (zz_b1 (zf_X1_layerOf N z S1 x7) (fun x16 => some (Sum.inl (x16, S1)))) else (zz_jn1 (fun (v11 : Int32) => some (Sum.inl (v11, S1))) (fun j12 => if p3 = ((1 : Int32)) then (zz_b1 (zf_X1_columnOf N z S1 x7) (fun x15 => j12 x15)) else (zz_b1 (zf_X1_rowOf N z S1 x7) (fun x14 => j12 x14))))) else (j9 ())))))) (fun j5 => if (zz_ga S1 22 x2) = 0 then (j5 ((-1 : Int32))) else (zz_b1 (zf_X1_heldAtTurn N z S1 p1 p2) (fun x17 => j5 x17))))
theorem zi_X6_piece_X2 : ∀ w ∈ wsX20, w ∈ wsX6_piece := by decide +kernel
theorem zm_X6_piece_138 : Cond.fieldLink RX6 138 "GridRipUp$Net" "led" "Z" ∈ wsX6_piece := by decide +kernel
theorem zx_X6_piece_io : ∀ w ∈ (vx_atS RX6 107 "java/lang/IndexOutOfBoundsException" ["java/lang/RuntimeException", "java/lang/Exception"]).filter goodWord, w ∈ wsX6_piece := by decide +kernel
theorem zx_X6_piece_iok : Cond.classLink RX6 103 "java/lang/IndexOutOfBoundsException" ∈ wsX6_piece := by decide +kernel
theorem zx_X6_piece_ioi : Cond.initialized "java/lang/IndexOutOfBoundsException" ∈ wsX6_piece := by decide +kernel
theorem zi_X6_piece_X6 : ∀ w ∈ wsX60, w ∈ wsX6_piece := by decide +kernel
theorem zm_X6_piece_12 : Cond.fieldLink RX6 12 "GridRipUp" "grid" "LGridRipUp$Grid;" ∈ wsX6_piece := by decide +kernel
theorem zd_X6_piece : yX6_piece.cls = RX6 ∧ yX6_piece.cls ≠ "java/lang/invoke/MethodHandle" ∧ yX6_piece.cls ≠ "java/lang/invoke/VarHandle" ∧ (parseMethodDescriptor yX6_piece.desc).map (fun d => d.parameters.length) = some 3 := by decide +kernel
set_option maxHeartbeats 4000000 in
set_option maxRecDepth 100000 in
theorem zc_X6_piece (N : Nat) (l : Launch) (D : va_G) (k : Nat → ClassId) {a : Nat → Nat} {z : Nat} (S : zz_St) (p1 : Int32) (p2 : Int32) (p3 : Int32)  (r : (Int32 × zz_St) ⊕ (Nat × zz_St)) (hst : l.stackTraces = false) (h : zf_X6_piece N z S p1 p2 p3 = some r) : zz_MX Value.int (fun _ => True) l yX6_piece wsX6_piece ({ frames := 7, cells := 2, slots := 12, locals := 111 } : Room) D k (zz_wC a k z) [.ref (a 0), .int p1, .int p2, .int p3] S r := by
  refine zz_metXI (cc := cX6_piece) (nL := 6) (ty := .int) hst (by decide) rfl (Nat.le_of_ble_eq_true rfl) ?_
  intro X C T hret hout hthr
  have C : zz_ok X cX6_piece RX6 wsX6_piece k 6 ({ frames := 7, cells := 2, slots := 12, locals := 111 } : Room) := C
  unfold zf_X6_piece at h
  show zz_ww X (0, 0) (zz_wC a k z S) 0 [(0, .ref (a 0)), (1, .int p1), (2, .int p2), (3, .int p3)] []
  refine zr_aln C 0 dX6_piece_0 rfl rfl rfl ?_
  refine zr_iln C 1 dX6_piece_1 rfl rfl rfl ?_
  refine zr_cX (wf := (zz_wC a k z)) (st := []) C T (fun l D r hl hr => zc_X6_netAt N l D k (a := a) (z := z) S p1 r hl hr) gX6_piece_X6_netAt rfl zd_X6_netAt ⟨by decide, by decide⟩ ⟨by decide, by decide⟩ rfl ⟨0, 6, _, _, _, zk_C0, rfl⟩ (Nat.le_of_ble_eq_true rfl) rfl dX6_piece_2 rfl rfl h (fun c9 u _ h => hout c9 u _ (by decide) (by decide) h) (fun x2 S1 hn3 _ h => ?_)
  refine zr_as C [1, 2, 3, 4, 0] dX6_piece_5 rfl (by decide) rfl ?_
  refine zr_al C 4 dX6_piece_7 rfl rfl ?_
  refine zg_X2_2 C hn3 zi_X6_piece_X2 zm_X6_piece_138 dX6_piece_9 rfl ?_
  refine zz_jn1_W h (fun (v4 : Int32) => zz_ww X (1, 6) (zz_wC a k z S1) 28 [(0, .ref (a 0)), (3, .int p3)] [.int v4]) ?_ ?_
  · intro v4 h
    refine zr_is C [1, 2, 0] dX6_piece_28 rfl (by decide) (fun x7 => [(0, .ref (a 0)), (3, .int p3), (5, .int x7)]) h (fun _ => rfl) (fun x7 h => ?_)
    refine zr_il C 2 dX6_piece_30 rfl rfl ?_
    refine zr_ic (v := (-1 : Int32)) C dX6_piece_32 (by decide) rfl ?_
    refine zz_jn1_W h (fun (u8 : Unit) => zz_ww X (1, 6) (zz_wC a k z S1) 45 [] []) ?_ ?_
    · intro u8 h
      exact zr_throw_io (c9 := 1) (text := "no such piece") C T zx_X6_piece_io zx_X6_piece_iok zx_X6_piece_ioi (by decide) dX6_piece_45 dX6_piece_48 dX6_piece_49 dX6_piece_51 dX6_piece_54 ⟨by decide, Nat.le_of_ble_eq_true rfl⟩ ⟨by decide, by decide⟩ rfl (fun hth => hthr 1 S1 (1, 6) 45 _ _ (by decide) (by decide) h hth)
    intro j9 hj10 h
    refine zr_icmp_eq (tgt := 45) C dX6_piece_33 (by decide) rfl h (fun h => ?_) (fun h => ?_)
    · refine zr_sub [] rfl ?_
      exact hj10 () h
    · refine zr_iln C 1 dX6_piece_36 rfl rfl rfl ?_
      refine zr_if_lt (tgt := 45) C dX6_piece_37 (by decide) rfl h (fun h => ?_) (fun h => ?_)
      · refine zr_sub [] rfl ?_
        exact hj10 () h
      · refine zr_iln C 1 dX6_piece_40 rfl rfl rfl ?_
        refine zr_ic (v := (2 : Int32)) C dX6_piece_41 (by decide) rfl ?_
        refine zr_icmp_le (tgt := 55) C dX6_piece_42 (by decide) rfl h (fun h => ?_) (fun h => ?_)
        · refine zr_iln C 1 dX6_piece_55 rfl rfl rfl ?_
          refine zr_if_ne (tgt := 69) C dX6_piece_56 (by decide) rfl h (fun h => ?_) (fun h => ?_)
          · refine zr_iln C 1 dX6_piece_69 rfl rfl rfl ?_
            refine zr_ic (v := (1 : Int32)) C dX6_piece_70 (by decide) rfl ?_
            refine zz_jn1_W h (fun (v11 : Int32) => zz_ww X (1, 6) (zz_wC a k z S1) 95 [] [.int v11]) ?_ ?_
            · intro v11 h
              exact hret v11 S1 95 _ (1, 6) (by decide) (by decide) dX6_piece_95 rfl h
            intro j12 hj13 h
            refine zr_icmp_ne (tgt := 86) C dX6_piece_71 (by decide) rfl h (fun h => ?_) (fun h => ?_)
            · refine zr_aln C 0 dX6_piece_86 rfl rfl rfl ?_
              refine zg_X6_0 C zi_X6_piece_X6 zm_X6_piece_12 dX6_piece_87 rfl ?_
              refine zr_il C 2 dX6_piece_90 rfl rfl ?_
              refine zr_cVir (wf := (zz_wC a k z)) (st := []) C (fun l D v hv => zc_X1_rowOf N l D k (a := a) (z := z) S1 x7 v hv) gX6_piece_X1_rowOf rfl zd_X1_rowOf ⟨by decide, by decide⟩ ⟨by decide, by decide⟩ rfl ⟨1, 1, _, _, _, zk_C1, rfl⟩ (Nat.le_of_ble_eq_true rfl) rfl dX6_piece_92 rfl rfl h (fun x14 _ h => ?_)
              refine zr_sub [] rfl ?_
              exact hj13 x14 h
            · refine zr_aln C 0 dX6_piece_74 rfl rfl rfl ?_
              refine zg_X6_0 C zi_X6_piece_X6 zm_X6_piece_12 dX6_piece_75 rfl ?_
              refine zr_il C 2 dX6_piece_78 rfl rfl ?_
              refine zr_cVir (wf := (zz_wC a k z)) (st := []) C (fun l D v hv => zc_X1_columnOf N l D k (a := a) (z := z) S1 x7 v hv) gX6_piece_X1_columnOf rfl zd_X1_columnOf ⟨by decide, by decide⟩ ⟨by decide, by decide⟩ rfl ⟨1, 1, _, _, _, zk_C1, rfl⟩ (Nat.le_of_ble_eq_true rfl) rfl dX6_piece_80 rfl rfl h (fun x15 _ h => ?_)
              refine zr_goto (tgt := 95) C dX6_piece_83 (by decide) ?_
              refine zr_sub [] rfl ?_
              exact hj13 x15 h
          · refine zr_aln C 0 dX6_piece_59 rfl rfl rfl ?_
            refine zg_X6_0 C zi_X6_piece_X6 zm_X6_piece_12 dX6_piece_60 rfl ?_
            refine zr_il C 2 dX6_piece_63 rfl rfl ?_
            refine zr_cVir (wf := (zz_wC a k z)) (st := []) C (fun l D v hv => zc_X1_layerOf N l D k (a := a) (z := z) S1 x7 v hv) gX6_piece_X1_layerOf rfl zd_X1_layerOf ⟨by decide, by decide⟩ ⟨by decide, by decide⟩ rfl ⟨1, 1, _, _, _, zk_C1, rfl⟩ (Nat.le_of_ble_eq_true rfl) rfl dX6_piece_65 rfl rfl h (fun x16 _ h => ?_)
            exact hret x16 S1 68 _ (1, 6) (by decide) (by decide) dX6_piece_68 rfl h
        · refine zr_sub [] rfl ?_
          exact hj10 () h
  intro j5 hj6 h
  refine zr_if_eq (tgt := 27) C dX6_piece_12 (by decide) rfl h (fun h => ?_) (fun h => ?_)
  · refine zr_ic (v := (-1 : Int32)) C dX6_piece_27 (by decide) rfl ?_
    refine zr_sub [0, 3] rfl ?_
    exact hj6 ((-1 : Int32)) h
  · refine zr_aln C 0 dX6_piece_15 rfl rfl rfl ?_
    refine zg_X6_0 C zi_X6_piece_X6 zm_X6_piece_12 dX6_piece_16 rfl ?_
    refine zr_iln C 1 dX6_piece_19 rfl rfl rfl ?_
    refine zr_iln C 2 dX6_piece_20 rfl rfl rfl ?_
    refine zr_cVir (wf := (zz_wC a k z)) (st := []) C (fun l D v hv => zc_X1_heldAtTurn N l D k (a := a) (z := z) S1 p1 p2 v hv) gX6_piece_X1_heldAtTurn rfl zd_X1_heldAtTurn ⟨by decide, by decide⟩ ⟨by decide, by decide⟩ rfl ⟨1, 1, _, _, _, zk_C1, rfl⟩ (Nat.le_of_ble_eq_true rfl) rfl dX6_piece_21 rfl rfl h (fun x17 _ h => ?_)
    refine zr_goto (tgt := 28) C dX6_piece_24 (by decide) ?_
    refine zr_sub [0, 3] rfl ?_
    exact hj6 x17 h

def zf_X6_costOf (N : Nat) (z : Nat) (S : zz_St) (p1 : Int32) : Option ((Int64 × zz_St) ⊕ (Nat × zz_St)) := zz_bx (zf_X6_netAt N z S p1) (fun x2 S1 => zz_jn1 (fun (v4 : Int64) => some (Sum.inl (v4, S1))) (fun j5 => if (zz_ga S1 22 x2) = 0 then (j5 ((-1 : Int64))) else (j5 (zz_gA S1 21 x2))))
theorem zi_X6_costOf_X2 : ∀ w ∈ wsX20, w ∈ wsX6_costOf := by decide +kernel
theorem zm_X6_costOf_138 : Cond.fieldLink RX6 138 "GridRipUp$Net" "led" "Z" ∈ wsX6_costOf := by decide +kernel
theorem zm_X6_costOf_c160 : Jvm.Cond.constantLong RX6 160 (-1) ∈ wsX6_costOf := by decide +kernel
theorem zm_X6_costOf_157 : Cond.fieldLink RX6 157 "GridRipUp$Net" "price" "J" ∈ wsX6_costOf := by decide +kernel
theorem zd_X6_costOf : yX6_costOf.cls = RX6 ∧ yX6_costOf.cls ≠ "java/lang/invoke/MethodHandle" ∧ yX6_costOf.cls ≠ "java/lang/invoke/VarHandle" ∧ (parseMethodDescriptor yX6_costOf.desc).map (fun d => d.parameters.length) = some 1 := by decide +kernel
set_option maxHeartbeats 4000000 in
set_option maxRecDepth 100000 in
theorem zc_X6_costOf (N : Nat) (l : Launch) (D : va_G) (k : Nat → ClassId) {a : Nat → Nat} {z : Nat} (S : zz_St) (p1 : Int32)  (r : (Int64 × zz_St) ⊕ (Nat × zz_St)) (hst : l.stackTraces = false) (h : zf_X6_costOf N z S p1 = some r) : zz_MX Value.long (fun _ => True) l yX6_costOf wsX6_costOf ({ frames := 7, cells := 1, slots := 6, locals := 111 } : Room) D k (zz_wC a k z) [.ref (a 0), .int p1] S r := by
  refine zz_metXL (cc := cX6_costOf) (nL := 3) hst (by decide) rfl (Nat.le_of_ble_eq_true rfl) ?_
  intro X C T hret hout hthr
  have C : zz_ok X cX6_costOf RX6 wsX6_costOf k 3 ({ frames := 7, cells := 1, slots := 6, locals := 111 } : Room) := C
  unfold zf_X6_costOf at h
  show zz_ww X (0, 0) (zz_wC a k z S) 0 [(0, .ref (a 0)), (1, .int p1)] []
  refine zr_aln C 0 dX6_costOf_0 rfl rfl rfl ?_
  refine zr_iln C 1 dX6_costOf_1 rfl rfl rfl ?_
  refine zr_cX (wf := (zz_wC a k z)) (st := []) C T (fun l D r hl hr => zc_X6_netAt N l D k (a := a) (z := z) S p1 r hl hr) gX6_costOf_X6_netAt rfl zd_X6_netAt ⟨by decide, by decide⟩ ⟨by decide, by decide⟩ rfl ⟨0, 6, _, _, _, zk_C0, rfl⟩ (Nat.le_of_ble_eq_true rfl) rfl dX6_costOf_2 rfl rfl h (fun c9 u _ h => hout c9 u _ (by decide) (by decide) h) (fun x2 S1 hn3 _ h => ?_)
  refine zr_asn C [1, 2, 0] dX6_costOf_5 rfl rfl (by decide) rfl ?_
  refine zr_aln C 2 dX6_costOf_6 rfl rfl rfl ?_
  refine zg_X2_2 C hn3 zi_X6_costOf_X2 zm_X6_costOf_138 dX6_costOf_7 rfl ?_
  refine zz_jn1_W h (fun (v4 : Int64) => zz_ww X (1, 6) (zz_wC a k z S1) 23 [] [.long v4]) ?_ ?_
  · intro v4 h
    exact hret v4 S1 23 _ (1, 6) (by decide) (by decide) dX6_costOf_23 h
  intro j5 hj6 h
  refine zr_if_eq (tgt := 20) C dX6_costOf_10 (by decide) rfl h (fun h => ?_) (fun h => ?_)
  · refine zr_ldc2 (v := (-1 : Int64)) C dX6_costOf_20 zm_X6_costOf_c160 rfl ?_
    refine zr_sub [] rfl ?_
    exact hj6 ((-1 : Int64)) h
  · refine zr_aln C 2 dX6_costOf_13 rfl rfl rfl ?_
    refine zg_X2_3 C hn3 zi_X6_costOf_X2 zm_X6_costOf_157 dX6_costOf_14 rfl ?_
    refine zr_goto (tgt := 23) C dX6_costOf_17 (by decide) ?_
    refine zr_sub [] rfl ?_
    exact hj6 (zz_gA S1 21 x2) h

def zf_X6_ripped (N : Nat) (z : Nat) (S : zz_St) (p1 : Int32) : Option ((Int32 × zz_St) ⊕ (Nat × zz_St)) := zz_bx (zf_X6_netAt N z S p1) (fun x2 S1 => some (Sum.inl (zz_ga S1 24 x2, S1)))
theorem zi_X6_ripped_X2 : ∀ w ∈ wsX20, w ∈ wsX6_ripped := by decide +kernel
theorem zm_X6_ripped_162 : Cond.fieldLink RX6 162 "GridRipUp$Net" "rips" "I" ∈ wsX6_ripped := by decide +kernel
theorem zd_X6_ripped : yX6_ripped.cls = RX6 ∧ yX6_ripped.cls ≠ "java/lang/invoke/MethodHandle" ∧ yX6_ripped.cls ≠ "java/lang/invoke/VarHandle" ∧ (parseMethodDescriptor yX6_ripped.desc).map (fun d => d.parameters.length) = some 1 := by decide +kernel
set_option maxHeartbeats 4000000 in
set_option maxRecDepth 100000 in
theorem zc_X6_ripped (N : Nat) (l : Launch) (D : va_G) (k : Nat → ClassId) {a : Nat → Nat} {z : Nat} (S : zz_St) (p1 : Int32)  (r : (Int32 × zz_St) ⊕ (Nat × zz_St)) (hst : l.stackTraces = false) (h : zf_X6_ripped N z S p1 = some r) : zz_MX Value.int (fun _ => True) l yX6_ripped wsX6_ripped ({ frames := 7, cells := 1, slots := 6, locals := 111 } : Room) D k (zz_wC a k z) [.ref (a 0), .int p1] S r := by
  refine zz_metXI (cc := cX6_ripped) (nL := 2) (ty := .int) hst (by decide) rfl (Nat.le_of_ble_eq_true rfl) ?_
  intro X C T hret hout hthr
  have C : zz_ok X cX6_ripped RX6 wsX6_ripped k 2 ({ frames := 7, cells := 1, slots := 6, locals := 111 } : Room) := C
  unfold zf_X6_ripped at h
  show zz_ww X (0, 0) (zz_wC a k z S) 0 [(0, .ref (a 0)), (1, .int p1)] []
  refine zr_aln C 0 dX6_ripped_0 rfl rfl rfl ?_
  refine zr_iln C 1 dX6_ripped_1 rfl rfl rfl ?_
  refine zr_cX (wf := (zz_wC a k z)) (st := []) C T (fun l D r hl hr => zc_X6_netAt N l D k (a := a) (z := z) S p1 r hl hr) gX6_ripped_X6_netAt rfl zd_X6_netAt ⟨by decide, by decide⟩ ⟨by decide, by decide⟩ rfl ⟨0, 6, _, _, _, zk_C0, rfl⟩ (Nat.le_of_ble_eq_true rfl) rfl dX6_ripped_2 rfl rfl h (fun c9 u _ h => hout c9 u _ (by decide) (by decide) h) (fun x2 S1 hn3 _ h => ?_)
  refine zg_X2_5 C hn3 zi_X6_ripped_X2 zm_X6_ripped_162 dX6_ripped_5 rfl ?_
  exact hret (zz_ga S1 24 x2) S1 8 _ (1, 6) (by decide) (by decide) dX6_ripped_8 rfl h

def zf_X6_history (N : Nat) (z : Nat) (S : zz_St) (p1 : Int32) (p2 : Int32) (p3 : Int32) : Option ((Int64 × zz_St) ⊕ (Nat × zz_St)) := zz_bx (zf_X6_cellAt N z S p1 p2 p3) (fun x2 S1 => zz_gd (zz_in x2 z) (some (Sum.inl (zz_gA S1 12 x2.toNatClampNeg, S1))))
theorem zi_X6_history_X6 : ∀ w ∈ wsX60, w ∈ wsX6_history := by decide +kernel
theorem zm_X6_history_12 : Cond.fieldLink RX6 12 "GridRipUp" "grid" "LGridRipUp$Grid;" ∈ wsX6_history := by decide +kernel
theorem zi_X6_history_X1 : ∀ w ∈ wsX10, w ∈ wsX6_history := by decide +kernel
theorem zm_X6_history_165 : Cond.fieldLink RX6 165 "GridRipUp$Grid" "scars" "[J" ∈ wsX6_history := by decide +kernel
theorem zd_X6_history : yX6_history.cls = RX6 ∧ yX6_history.cls ≠ "java/lang/invoke/MethodHandle" ∧ yX6_history.cls ≠ "java/lang/invoke/VarHandle" ∧ (parseMethodDescriptor yX6_history.desc).map (fun d => d.parameters.length) = some 3 := by decide +kernel
set_option maxHeartbeats 4000000 in
set_option maxRecDepth 100000 in
theorem zc_X6_history (N : Nat) (l : Launch) (D : va_G) (k : Nat → ClassId) {a : Nat → Nat} {z : Nat} (S : zz_St) (p1 : Int32) (p2 : Int32) (p3 : Int32)  (r : (Int64 × zz_St) ⊕ (Nat × zz_St)) (hst : l.stackTraces = false) (h : zf_X6_history N z S p1 p2 p3 = some r) : zz_MX Value.long (fun _ => True) l yX6_history wsX6_history ({ frames := 7, cells := 1, slots := 6, locals := 113 } : Room) D k (zz_wC a k z) [.ref (a 0), .int p1, .int p2, .int p3] S r := by
  refine zz_metXL (cc := cX6_history) (nL := 4) hst (by decide) rfl (Nat.le_of_ble_eq_true rfl) ?_
  intro X C T hret hout hthr
  have C : zz_ok X cX6_history RX6 wsX6_history k 4 ({ frames := 7, cells := 1, slots := 6, locals := 113 } : Room) := C
  unfold zf_X6_history at h
  show zz_ww X (0, 0) (zz_wC a k z S) 0 [(0, .ref (a 0)), (1, .int p1), (2, .int p2), (3, .int p3)] []
  refine zr_aln C 0 dX6_history_0 rfl rfl rfl ?_
  refine zg_X6_0 C zi_X6_history_X6 zm_X6_history_12 dX6_history_1 rfl ?_
  refine zg_X1_9 C zi_X6_history_X1 zm_X6_history_165 dX6_history_4 rfl ?_
  refine zr_aln C 0 dX6_history_7 rfl rfl rfl ?_
  refine zr_iln C 1 dX6_history_8 rfl rfl rfl ?_
  refine zr_iln C 2 dX6_history_9 rfl rfl rfl ?_
  refine zr_iln C 3 dX6_history_10 rfl rfl rfl ?_
  refine zr_cX (wf := (zz_wC a k z)) (st := [.ref (a 12)]) C T (fun l D r hl hr => zc_X6_cellAt N l D k (a := a) (z := z) S p1 p2 p3 r hl hr) gX6_history_X6_cellAt rfl zd_X6_cellAt ⟨by decide, by decide⟩ ⟨by decide, by decide⟩ rfl ⟨0, 6, _, _, _, zk_C0, rfl⟩ (Nat.le_of_ble_eq_true rfl) rfl dX6_history_11 rfl rfl h (fun c9 u _ h => hout c9 u _ (by decide) (by decide) h) (fun x2 S1 hn3 _ h => ?_)
  refine zl_C12 C dX6_history_14 rfl h (fun h => ?_)
  exact hret (zz_gA S1 12 x2.toNatClampNeg) S1 15 _ (1, 6) (by decide) (by decide) dX6_history_15 h

def zf_X6_blocking (N : Nat) (z : Nat) (S : zz_St) (p1 : Int32) (p2 : Int32) : Option ((Int32 × zz_St) ⊕ (Nat × zz_St)) := zz_bx (zf_X6_netAt N z S p1) (fun x2 S1 => zz_b1 (zf_X6_memberAt N (zz_ga S1 23 x2) p2) (fun x4 => some (Sum.inl (x4, S1))))
theorem zi_X6_blocking_X2 : ∀ w ∈ wsX20, w ∈ wsX6_blocking := by decide +kernel
theorem zm_X6_blocking_172 : Cond.fieldLink RX6 172 "GridRipUp$Net" "blockers" "I" ∈ wsX6_blocking := by decide +kernel
theorem zd_X6_blocking : yX6_blocking.cls = RX6 ∧ yX6_blocking.cls ≠ "java/lang/invoke/MethodHandle" ∧ yX6_blocking.cls ≠ "java/lang/invoke/VarHandle" ∧ (parseMethodDescriptor yX6_blocking.desc).map (fun d => d.parameters.length) = some 2 := by decide +kernel
set_option maxHeartbeats 4000000 in
set_option maxRecDepth 100000 in
theorem zc_X6_blocking (N : Nat) (l : Launch) (D : va_G) (k : Nat → ClassId) {a : Nat → Nat} {z : Nat} (S : zz_St) (p1 : Int32) (p2 : Int32)  (r : (Int32 × zz_St) ⊕ (Nat × zz_St)) (hst : l.stackTraces = false) (h : zf_X6_blocking N z S p1 p2 = some r) : zz_MX Value.int (fun _ => True) l yX6_blocking wsX6_blocking ({ frames := 7, cells := 1, slots := 6, locals := 111 } : Room) D k (zz_wC a k z) [.ref (a 0), .int p1, .int p2] S r := by
  refine zz_metXI (cc := cX6_blocking) (nL := 3) (ty := .int) hst (by decide) rfl (Nat.le_of_ble_eq_true rfl) ?_
  intro X C T hret hout hthr
  have C : zz_ok X cX6_blocking RX6 wsX6_blocking k 3 ({ frames := 7, cells := 1, slots := 6, locals := 111 } : Room) := C
  unfold zf_X6_blocking at h
  show zz_ww X (0, 0) (zz_wC a k z S) 0 [(0, .ref (a 0)), (1, .int p1), (2, .int p2)] []
  refine zr_aln C 0 dX6_blocking_0 rfl rfl rfl ?_
  refine zr_iln C 1 dX6_blocking_1 rfl rfl rfl ?_
  refine zr_cX (wf := (zz_wC a k z)) (st := []) C T (fun l D r hl hr => zc_X6_netAt N l D k (a := a) (z := z) S p1 r hl hr) gX6_blocking_X6_netAt rfl zd_X6_netAt ⟨by decide, by decide⟩ ⟨by decide, by decide⟩ rfl ⟨0, 6, _, _, _, zk_C0, rfl⟩ (Nat.le_of_ble_eq_true rfl) rfl dX6_blocking_2 rfl rfl h (fun c9 u _ h => hout c9 u _ (by decide) (by decide) h) (fun x2 S1 hn3 _ h => ?_)
  refine zg_X2_4 C hn3 zi_X6_blocking_X2 zm_X6_blocking_172 dX6_blocking_5 rfl ?_
  refine zr_iln C 2 dX6_blocking_8 rfl rfl rfl ?_
  refine zr_cSir (wf := (zz_wC a k z)) (st := []) C (fun l D v hv => zc_X6_memberAt N l D k (wf := (zz_wC a k z)) S1 (zz_ga S1 23 x2) p2 v hv) gX6_blocking_X6_memberAt rfl zd_X6_memberAt ⟨by decide, by decide⟩ ⟨by decide, by decide⟩ rfl (Nat.le_of_ble_eq_true rfl) rfl dX6_blocking_9 rfl rfl h (fun x4 _ h => ?_)
  exact hret x4 S1 12 _ (1, 6) (by decide) (by decide) dX6_blocking_12 rfl h

def zf_X6_joined (N : Nat) (z : Nat) (S : zz_St) (p1 : Int32) : Option ((Int32 × zz_St) ⊕ (Nat × zz_St)) := zz_bx (zf_X6_netAt N z S p1) (fun x2 S1 => zz_gd (zz_bl (zz_ga S1 22 x2)) (some (Sum.inl (zz_ga S1 22 x2, S1))))
theorem zi_X6_joined_X2 : ∀ w ∈ wsX20, w ∈ wsX6_joined := by decide +kernel
theorem zm_X6_joined_138 : Cond.fieldLink RX6 138 "GridRipUp$Net" "led" "Z" ∈ wsX6_joined := by decide +kernel
theorem zd_X6_joined : yX6_joined.cls = RX6 ∧ yX6_joined.cls ≠ "java/lang/invoke/MethodHandle" ∧ yX6_joined.cls ≠ "java/lang/invoke/VarHandle" ∧ (parseMethodDescriptor yX6_joined.desc).map (fun d => d.parameters.length) = some 1 := by decide +kernel
set_option maxHeartbeats 4000000 in
set_option maxRecDepth 100000 in
theorem zc_X6_joined (N : Nat) (l : Launch) (D : va_G) (k : Nat → ClassId) {a : Nat → Nat} {z : Nat} (S : zz_St) (p1 : Int32)  (r : (Int32 × zz_St) ⊕ (Nat × zz_St)) (hst : l.stackTraces = false) (h : zf_X6_joined N z S p1 = some r) : zz_MX Value.int (fun _ => True) l yX6_joined wsX6_joined ({ frames := 7, cells := 1, slots := 6, locals := 111 } : Room) D k (zz_wC a k z) [.ref (a 0), .int p1] S r := by
  refine zz_metXI (cc := cX6_joined) (nL := 2) (ty := .boolean) hst (by decide) rfl (Nat.le_of_ble_eq_true rfl) ?_
  intro X C T hret hout hthr
  have C : zz_ok X cX6_joined RX6 wsX6_joined k 2 ({ frames := 7, cells := 1, slots := 6, locals := 111 } : Room) := C
  unfold zf_X6_joined at h
  show zz_ww X (0, 0) (zz_wC a k z S) 0 [(0, .ref (a 0)), (1, .int p1)] []
  refine zr_aln C 0 dX6_joined_0 rfl rfl rfl ?_
  refine zr_iln C 1 dX6_joined_1 rfl rfl rfl ?_
  refine zr_cX (wf := (zz_wC a k z)) (st := []) C T (fun l D r hl hr => zc_X6_netAt N l D k (a := a) (z := z) S p1 r hl hr) gX6_joined_X6_netAt rfl zd_X6_netAt ⟨by decide, by decide⟩ ⟨by decide, by decide⟩ rfl ⟨0, 6, _, _, _, zk_C0, rfl⟩ (Nat.le_of_ble_eq_true rfl) rfl dX6_joined_2 rfl rfl h (fun c9 u _ h => hout c9 u _ (by decide) (by decide) h) (fun x2 S1 hn3 _ h => ?_)
  refine zg_X2_2 C hn3 zi_X6_joined_X2 zm_X6_joined_138 dX6_joined_5 rfl ?_
  obtain ⟨hb, h⟩ := zz_gd_some h
  exact hret (zz_ga S1 22 x2) S1 8 _ (1, 6) (by decide) (by decide) dX6_joined_8 (zz_bl_nar hb) h


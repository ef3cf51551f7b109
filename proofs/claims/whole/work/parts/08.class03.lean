def zf_X6_memberAt (N : Nat) (p0 : Int32) (p1 : Int32) : Option Int32 := zz_let p1 (fun x1 => zz_let ((0 : Int32)) (fun x2 => zz_fix2 (fun rc5 (v3 : Int32) (v4 : Int32) => zz_jn1 (fun (u7 : Unit) => some ((-1 : Int32))) (fun j8 => if ((32 : Int32)) ≤ v4 then (j8 ()) else (if v3 < 0 then (j8 ()) else (zz_jn1 (fun (v10 : Int32) => zz_let (v4 + (1 : Int32)) (fun x13 => rc5 v10 x13)) (fun j11 => if (((p0.toUInt32 >>> (v4.toUInt32 &&& Int32.toUInt32 31)).toInt32) &&& ((1 : Int32))) = 0 then (j11 v3) else (if v3 = 0 then (some (v4)) else (zz_let (v3 + (-1 : Int32)) (fun x14 => j11 x14)))))))) N x1 x2))
theorem zd_X6_memberAt : yX6_memberAt.cls ≠ "java/lang/invoke/MethodHandle" ∧ yX6_memberAt.cls ≠ "java/lang/invoke/VarHandle" ∧ (parseMethodDescriptor yX6_memberAt.desc).map (fun d => d.parameters.length) = some 2 := by decide +kernel
set_option maxHeartbeats 4000000 in
set_option maxRecDepth 100000 in
theorem zc_X6_memberAt (N : Nat) (l : Launch) (D : va_G) (k : Nat → ClassId) {σ : Type} {wf : σ → va_W} (S : σ) (p0 : Int32) (p1 : Int32)  (v : Int32) (h : zf_X6_memberAt N p0 p1 = some v) : zz_MI l yX6_memberAt wsX6_memberAt ({ frames := 0, cells := 0, slots := 0, locals := 0 } : Room) D k wf [.int p0, .int p1] S (v, S) := by
  refine zz_metI (cc := cX6_memberAt) (nL := 4) (ty := .int) (by decide) rfl (Nat.le_of_ble_eq_true rfl) ?_
  intro X C hret
  have C : zz_ok X cX6_memberAt RX6 wsX6_memberAt k 4 ({ frames := 0, cells := 0, slots := 0, locals := 0 } : Room) := C
  unfold zf_X6_memberAt at h
  show zz_ww X (0, 0) (wf S) 0 [(0, .int p0), (1, .int p1)] []
  refine zr_iln C 1 dX6_memberAt_0 rfl rfl rfl ?_
  refine zr_isn C [1, 2, 0] dX6_memberAt_1 rfl rfl (by decide) (fun x1 => [(0, .int p0), (1, .int p1), (2, .int x1)]) h (fun _ => rfl) (fun x1 h => ?_)
  refine zr_ic (v := (0 : Int32)) C dX6_memberAt_2 (by decide) rfl ?_
  refine zr_isn C [1, 2, 3, 0] dX6_memberAt_3 rfl rfl (by decide) (fun x2 => [(0, .int p0), (1, .int p1), (2, .int x1), (3, .int x2)]) h (fun _ => rfl) (fun x2 h => ?_)
  refine zr_sub [0, 2, 3] rfl ?_
  refine zz_fix2_W (fun (v3 : Int32) (v4 : Int32) => zz_ww X (0, 0) (wf S) 4 [(0, .int p0), (2, .int v3), (3, .int v4)] []) ?_ N x1 x2 h
  intro rc5 hr6 v3 v4 h
  refine zr_iln C 2 dX6_memberAt_4 rfl rfl rfl ?_
  refine zr_bi (v := (32 : Int32)) C dX6_memberAt_5 (by decide) rfl ?_
  refine zz_jn1_W h (fun (u7 : Unit) => zz_ww X (0, 0) (wf S) 37 [] []) ?_ ?_
  · intro u7 h
    refine zr_ic (v := (-1 : Int32)) C dX6_memberAt_37 (by decide) rfl ?_
    exact hret ((-1 : Int32)) S 38 _ (0, 0) (by decide) (by decide) dX6_memberAt_38 rfl (zz_ro h)
  intro j8 hj9 h
  refine zr_icmp_ge (tgt := 37) C dX6_memberAt_7 (by decide) rfl h (fun h => ?_) (fun h => ?_)
  · refine zr_sub [] rfl ?_
    exact hj9 () h
  · refine zr_iln C 1 dX6_memberAt_10 rfl rfl rfl ?_
    refine zr_if_lt (tgt := 37) C dX6_memberAt_11 (by decide) rfl h (fun h => ?_) (fun h => ?_)
    · refine zr_sub [] rfl ?_
      exact hj9 () h
    · refine zr_iln C 0 dX6_memberAt_14 rfl rfl rfl ?_
      refine zr_iln C 2 dX6_memberAt_15 rfl rfl rfl ?_
      refine zr_iushr C dX6_memberAt_16 rfl ?_
      refine zr_ic (v := (1 : Int32)) C dX6_memberAt_17 (by decide) rfl ?_
      refine zr_iand C dX6_memberAt_18 rfl ?_
      refine zz_jn1_W h (fun (v10 : Int32) => zz_ww X (0, 0) (wf S) 31 [(0, .int p0), (2, .int v10), (3, .int v4)] []) ?_ ?_
      · intro v10 h
        refine zr_iinc (v := (1 : Int32)) C 2 [1, 2, 0] dX6_memberAt_31 rfl (by decide) rfl (by decide) (fun x13 => [(0, .int p0), (2, .int v10), (3, .int x13)]) h (fun _ => rfl) (fun x13 h => ?_)
        refine zr_goto (tgt := 4) C dX6_memberAt_34 (by decide) ?_
        exact hr6 v10 x13 h
      intro j11 hj12 h
      refine zr_if_eq (tgt := 31) C dX6_memberAt_19 (by decide) rfl h (fun h => ?_) (fun h => ?_)
      · exact hj12 v3 h
      · refine zr_iln C 1 dX6_memberAt_22 rfl rfl rfl ?_
        refine zr_if_ne (tgt := 28) C dX6_memberAt_23 (by decide) rfl h (fun h => ?_) (fun h => ?_)
        · refine zr_iinc (v := (-1 : Int32)) C 1 [1, 0, 2] dX6_memberAt_28 rfl (by decide) rfl (by decide) (fun x14 => [(0, .int p0), (2, .int x14), (3, .int v4)]) h (fun _ => rfl) (fun x14 h => ?_)
          exact hj12 x14 h
        · refine zr_iln C 2 dX6_memberAt_26 rfl rfl rfl ?_
          exact hret v4 S 27 _ (0, 0) (by decide) (by decide) dX6_memberAt_27 rfl (zz_ro h)

def zf_X6_open (N : Nat) (z : Nat) (S : zz_St) (p1 : Int32) : Option Int32 := zz_b1 (zf_X6_openNets N z S) (fun x1 => zz_b1 (zf_X6_memberAt N x1 p1) (fun x2 => some (x2)))
theorem zd_X6_open : yX6_open.cls = RX6 ∧ yX6_open.cls ≠ "java/lang/invoke/MethodHandle" ∧ yX6_open.cls ≠ "java/lang/invoke/VarHandle" ∧ (parseMethodDescriptor yX6_open.desc).map (fun d => d.parameters.length) = some 1 := by decide +kernel
set_option maxHeartbeats 4000000 in
set_option maxRecDepth 100000 in
theorem zc_X6_open (N : Nat) (l : Launch) (D : va_G) (k : Nat → ClassId) {a : Nat → Nat} {z : Nat} (S : zz_St) (p1 : Int32)  (v : Int32) (h : zf_X6_open N z S p1 = some v) : zz_MI l yX6_open wsX6_open ({ frames := 2, cells := 0, slots := 0, locals := 42 } : Room) D k (zz_wC a k z) [.ref (a 0), .int p1] S (v, S) := by
  refine zz_metI (cc := cX6_open) (nL := 2) (ty := .int) (by decide) rfl (Nat.le_of_ble_eq_true rfl) ?_
  intro X C hret
  have C : zz_ok X cX6_open RX6 wsX6_open k 2 ({ frames := 2, cells := 0, slots := 0, locals := 42 } : Room) := C
  unfold zf_X6_open at h
  show zz_ww X (0, 0) (zz_wC a k z S) 0 [(0, .ref (a 0)), (1, .int p1)] []
  refine zr_aln C 0 dX6_open_0 rfl rfl rfl ?_
  refine zr_cVir (wf := (zz_wC a k z)) (st := []) C (fun l D v hv => zc_X6_openNets N l D k (a := a) (z := z) S  v hv) gX6_open_X6_openNets rfl zd_X6_openNets ⟨by decide, by decide⟩ ⟨by decide, by decide⟩ rfl ⟨0, 6, _, _, _, zk_C0, rfl⟩ (Nat.le_of_ble_eq_true rfl) rfl dX6_open_1 rfl rfl h (fun x1 _ h => ?_)
  refine zr_iln C 1 dX6_open_4 rfl rfl rfl ?_
  refine zr_cSir (wf := (zz_wC a k z)) (st := []) C (fun l D v hv => zc_X6_memberAt N l D k (wf := (zz_wC a k z)) S x1 p1 v hv) gX6_open_X6_memberAt rfl zd_X6_memberAt ⟨by decide, by decide⟩ ⟨by decide, by decide⟩ rfl (Nat.le_of_ble_eq_true rfl) rfl dX6_open_5 rfl rfl h (fun x2 _ h => ?_)
  exact hret x2 S 8 _ (0, 0) (by decide) (by decide) dX6_open_8 rfl (zz_ro h)

def zf_X6_round (N : Nat) (z : Nat) (S : zz_St)  : Option Int32 := some (zz_gi S 1)
theorem zi_X6_round_X6 : ∀ w ∈ wsX60, w ∈ wsX6_round := by decide +kernel
theorem zm_X6_round_61 : Cond.fieldLink RX6 61 "GridRipUp" "roundCount" "I" ∈ wsX6_round := by decide +kernel
theorem zd_X6_round : yX6_round.cls = RX6 ∧ yX6_round.cls ≠ "java/lang/invoke/MethodHandle" ∧ yX6_round.cls ≠ "java/lang/invoke/VarHandle" ∧ (parseMethodDescriptor yX6_round.desc).map (fun d => d.parameters.length) = some 0 := by decide +kernel
set_option maxHeartbeats 4000000 in
set_option maxRecDepth 100000 in
theorem zc_X6_round (N : Nat) (l : Launch) (D : va_G) (k : Nat → ClassId) {a : Nat → Nat} {z : Nat} (S : zz_St)   (v : Int32) (h : zf_X6_round N z S  = some v) : zz_MI l yX6_round wsX6_round ({ frames := 0, cells := 0, slots := 0, locals := 0 } : Room) D k (zz_wC a k z) [.ref (a 0)] S (v, S) := by
  refine zz_metI (cc := cX6_round) (nL := 1) (ty := .int) (by decide) rfl (Nat.le_of_ble_eq_true rfl) ?_
  intro X C hret
  have C : zz_ok X cX6_round RX6 wsX6_round k 1 ({ frames := 0, cells := 0, slots := 0, locals := 0 } : Room) := C
  unfold zf_X6_round at h
  show zz_ww X (0, 0) (zz_wC a k z S) 0 [(0, .ref (a 0))] []
  refine zr_aln C 0 dX6_round_0 rfl rfl rfl ?_
  refine zg_X6_7 C zi_X6_round_X6 zm_X6_round_61 dX6_round_1 rfl ?_
  exact hret (zz_gi S 1) S 4 _ (0, 0) (by decide) (by decide) dX6_round_4 rfl (zz_ro h)

def zf_X6_isPrice (N : Nat) (p0 : Int32) : Option Int32 := zz_jn1 (fun (v1 : Int32) => zz_gd (zz_bl v1) (some (v1))) (fun j2 => zz_jn1 (fun (u4 : Unit) => j2 ((0 : Int32))) (fun j5 => if p0 < 0 then (j5 ()) else (if ((50 : Int32)) < p0 then (j5 ()) else (j2 ((1 : Int32))))))
theorem zd_X6_isPrice : yX6_isPrice.cls ≠ "java/lang/invoke/MethodHandle" ∧ yX6_isPrice.cls ≠ "java/lang/invoke/VarHandle" ∧ (parseMethodDescriptor yX6_isPrice.desc).map (fun d => d.parameters.length) = some 1 := by decide +kernel
set_option maxHeartbeats 4000000 in
set_option maxRecDepth 100000 in
theorem zc_X6_isPrice (N : Nat) (l : Launch) (D : va_G) (k : Nat → ClassId) {σ : Type} {wf : σ → va_W} (S : σ) (p0 : Int32)  (v : Int32) (h : zf_X6_isPrice N p0 = some v) : zz_MI l yX6_isPrice wsX6_isPrice ({ frames := 0, cells := 0, slots := 0, locals := 0 } : Room) D k wf [.int p0] S (v, S) := by
  refine zz_metI (cc := cX6_isPrice) (nL := 1) (ty := .boolean) (by decide) rfl (Nat.le_of_ble_eq_true rfl) ?_
  intro X C hret
  have C : zz_ok X cX6_isPrice RX6 wsX6_isPrice k 1 ({ frames := 0, cells := 0, slots := 0, locals := 0 } : Room) := C
  unfold zf_X6_isPrice at h
  show zz_ww X (0, 0) (wf S) 0 [(0, .int p0)] []
  refine zr_iln C 0 dX6_isPrice_0 rfl rfl rfl ?_
  refine zz_jn1_W h (fun (v1 : Int32) => zz_ww X (0, 0) (wf S) 15 [] [.int v1]) ?_ ?_
  · intro v1 h
    obtain ⟨hb, h⟩ := zz_gd_some h
    exact hret v1 S 15 _ (0, 0) (by decide) (by decide) dX6_isPrice_15 (zz_bl_nar hb) (zz_ro h)
  intro j2 hj3 h
  refine zz_jn1_W h (fun (u4 : Unit) => zz_ww X (0, 0) (wf S) 14 [] []) ?_ ?_
  · intro u4 h
    refine zr_ic (v := (0 : Int32)) C dX6_isPrice_14 (by decide) rfl ?_
    exact hj3 ((0 : Int32)) h
  intro j5 hj6 h
  refine zr_if_lt (tgt := 14) C dX6_isPrice_1 (by decide) rfl h (fun h => ?_) (fun h => ?_)
  · refine zr_sub [] rfl ?_
    exact hj6 () h
  · refine zr_iln C 0 dX6_isPrice_4 rfl rfl rfl ?_
    refine zr_bi (v := (50 : Int32)) C dX6_isPrice_5 (by decide) rfl ?_
    refine zr_icmp_gt (tgt := 14) C dX6_isPrice_7 (by decide) rfl h (fun h => ?_) (fun h => ?_)
    · refine zr_sub [] rfl ?_
      exact hj6 () h
    · refine zr_ic (v := (1 : Int32)) C dX6_isPrice_10 (by decide) rfl ?_
      refine zr_goto (tgt := 15) C dX6_isPrice_11 (by decide) ?_
      refine zr_sub [] rfl ?_
      exact hj3 ((1 : Int32)) h

def zf_X6_layOpen (N : Nat) (z : Nat) (S : zz_St) (p1 : Int32) : Option zz_St := zz_gd (zz_in p1 12) (zz_let (zz_sa S 22 (upd (zz_ga S 22) p1.toNatClampNeg ((0 : Int32)))) (fun S2 => zz_b1 (zf_X1_keepPinsAlone N z S2 p1) (fun S3 => some S3)))
theorem zi_X6_layOpen_X6 : ∀ w ∈ wsX60, w ∈ wsX6_layOpen := by decide +kernel
theorem zm_X6_layOpen_49 : Cond.fieldLink RX6 49 "GridRipUp" "nets" "[LGridRipUp$Net;" ∈ wsX6_layOpen := by decide +kernel
theorem zi_X6_layOpen_X2 : ∀ w ∈ wsX20, w ∈ wsX6_layOpen := by decide +kernel
theorem zm_X6_layOpen_138 : Cond.fieldLink RX6 138 "GridRipUp$Net" "led" "Z" ∈ wsX6_layOpen := by decide +kernel
theorem zm_X6_layOpen_12 : Cond.fieldLink RX6 12 "GridRipUp" "grid" "LGridRipUp$Grid;" ∈ wsX6_layOpen := by decide +kernel
theorem zd_X6_layOpen : yX6_layOpen.cls = RX6 ∧ yX6_layOpen.cls ≠ "java/lang/invoke/MethodHandle" ∧ yX6_layOpen.cls ≠ "java/lang/invoke/VarHandle" ∧ (parseMethodDescriptor yX6_layOpen.desc).map (fun d => d.parameters.length) = some 1 := by decide +kernel
set_option maxHeartbeats 4000000 in
set_option maxRecDepth 100000 in
theorem zc_X6_layOpen (N : Nat) (l : Launch) (D : va_G) (k : Nat → ClassId) {a : Nat → Nat} {z : Nat} (S : zz_St) (p1 : Int32)  (u : zz_St) (h : zf_X6_layOpen N z S p1 = some u) : zz_MV l yX6_layOpen wsX6_layOpen ({ frames := 1, cells := 0, slots := 0, locals := 22 } : Room) D k (zz_wC a k z) [.ref (a 0), .int p1] S u := by
  refine zz_metV (cc := cX6_layOpen) (nL := 2) (by decide) rfl (Nat.le_of_ble_eq_true rfl) ?_
  intro X C hret
  have C : zz_ok X cX6_layOpen RX6 wsX6_layOpen k 2 ({ frames := 1, cells := 0, slots := 0, locals := 22 } : Room) := C
  unfold zf_X6_layOpen at h
  show zz_ww X (0, 0) (zz_wC a k z S) 0 [(0, .ref (a 0)), (1, .int p1)] []
  refine zr_aln C 0 dX6_layOpen_0 rfl rfl rfl ?_
  refine zg_X6_4 C zi_X6_layOpen_X6 zm_X6_layOpen_49 dX6_layOpen_1 rfl ?_
  refine zr_iln C 1 dX6_layOpen_4 rfl rfl rfl ?_
  refine zl_C6 C dX6_layOpen_5 rfl h (fun hn1 h => ?_)
  refine zr_ic (v := (0 : Int32)) C dX6_layOpen_6 (by decide) rfl ?_
  refine zp_X2_2 C hn1 (by decide) zi_X6_layOpen_X2 zm_X6_layOpen_138 dX6_layOpen_7 rfl h (fun S2 h => ?_)
  refine zr_aln C 0 dX6_layOpen_10 rfl rfl rfl ?_
  refine zg_X6_0 C zi_X6_layOpen_X6 zm_X6_layOpen_12 dX6_layOpen_11 rfl ?_
  refine zr_iln C 1 dX6_layOpen_14 rfl rfl rfl ?_
  refine zr_cVv (wf := (zz_wC a k z)) (st := []) C (fun l D u hu => zc_X1_keepPinsAlone N l D k (a := a) (z := z) S2 p1 u hu) gX6_layOpen_X1_keepPinsAlone rfl zd_X1_keepPinsAlone ⟨by decide, by decide⟩ ⟨by decide, by decide⟩ rfl ⟨1, 1, _, _, _, zk_C1, rfl⟩ (Nat.le_of_ble_eq_true rfl) rfl dX6_layOpen_15 rfl rfl h (fun S3 _ h => ?_)
  exact hret S3 18 _ (0, 0) (by decide) (by decide) dX6_layOpen_18 h

def zf_X6_draw (N : Nat) (z : Nat) (S : zz_St)  : Option (Int64 × zz_St) := zz_let (zz_sl S 0 (((zz_gl S 0) * ((6364136223846793005 : Int64))) + ((1442695040888963407 : Int64)))) (fun S1 => some (((zz_gl S1 0).toUInt64 >>> (((33 : Int32)).toInt64.toUInt64 &&& Int64.toUInt64 63)).toInt64, S1))
theorem zi_X6_draw_X6 : ∀ w ∈ wsX60, w ∈ wsX6_draw := by decide +kernel
theorem zm_X6_draw_64 : Cond.fieldLink RX6 64 "GridRipUp" "drawState" "J" ∈ wsX6_draw := by decide +kernel
theorem zm_X6_draw_c208 : Jvm.Cond.constantLong RX6 208 (6364136223846793005) ∈ wsX6_draw := by decide +kernel
theorem zm_X6_draw_c210 : Jvm.Cond.constantLong RX6 210 (1442695040888963407) ∈ wsX6_draw := by decide +kernel
theorem zd_X6_draw : yX6_draw.cls = RX6 ∧ yX6_draw.cls ≠ "java/lang/invoke/MethodHandle" ∧ yX6_draw.cls ≠ "java/lang/invoke/VarHandle" ∧ (parseMethodDescriptor yX6_draw.desc).map (fun d => d.parameters.length) = some 0 := by decide +kernel
set_option maxHeartbeats 4000000 in
set_option maxRecDepth 100000 in
theorem zc_X6_draw (N : Nat) (l : Launch) (D : va_G) (k : Nat → ClassId) {a : Nat → Nat} {z : Nat} (S : zz_St)   (v : Int64) (u : zz_St) (h : zf_X6_draw N z S  = some (v, u)) : zz_ML l yX6_draw wsX6_draw ({ frames := 0, cells := 0, slots := 0, locals := 0 } : Room) D k (zz_wC a k z) [.ref (a 0)] S (v, u) := by
  refine zz_metL (cc := cX6_draw) (nL := 1) (by decide) rfl (Nat.le_of_ble_eq_true rfl) ?_
  intro X C hret
  have C : zz_ok X cX6_draw RX6 wsX6_draw k 1 ({ frames := 0, cells := 0, slots := 0, locals := 0 } : Room) := C
  unfold zf_X6_draw at h
  show zz_ww X (0, 0) (zz_wC a k z S) 0 [(0, .ref (a 0))] []
  refine zr_aln C 0 dX6_draw_0 rfl rfl rfl ?_
  refine zr_aln C 0 dX6_draw_1 rfl rfl rfl ?_
  refine zg_X6_8 C zi_X6_draw_X6 zm_X6_draw_64 dX6_draw_2 rfl ?_
  refine zr_ldc2 (v := (6364136223846793005 : Int64)) C dX6_draw_5 zm_X6_draw_c208 rfl ?_
  refine zr_lmul C dX6_draw_8 rfl ?_
  refine zr_ldc2 (v := (1442695040888963407 : Int64)) C dX6_draw_9 zm_X6_draw_c210 rfl ?_
  refine zr_ladd C dX6_draw_12 rfl ?_
  refine zp_X6_8 C zi_X6_draw_X6 zm_X6_draw_64 dX6_draw_13 rfl h (fun S1 h => ?_)
  refine zr_aln C 0 dX6_draw_16 rfl rfl rfl ?_
  refine zg_X6_8 C zi_X6_draw_X6 zm_X6_draw_64 dX6_draw_17 rfl ?_
  refine zr_bi (v := (33 : Int32)) C dX6_draw_20 (by decide) rfl ?_
  refine zr_lushr C dX6_draw_22 rfl ?_
  exact hret (((zz_gl S1 0).toUInt64 >>> (((33 : Int32)).toInt64.toUInt64 &&& Int64.toUInt64 63)).toInt64) S1 23 _ (0, 0) (by decide) (by decide) dX6_draw_23 h

def zf_X6_putInOrder (N : Nat) (z : Nat) (S : zz_St) (p1 : Int32) : Option (Int32 × zz_St) := zz_let ((0 : Int32)) (fun x1 => zz_let ((0 : Int32)) (fun x2 => zz_fix3 (fun rc6 (v3 : Int32) (v4 : Int32) (S5 : zz_St) => if (zz_gi S5 0) ≤ v4 then (zz_let (v3 - ((1 : Int32))) (fun x8 => zz_fix2 (fun rc11 (v9 : Int32) (S10 : zz_St) => if v9 < ((1 : Int32)) then (some (v3, S10)) else (zz_b2 (zf_X6_draw N z S10) (fun x14 S13 => zz_gd (!(((v9 + ((1 : Int32))).toInt64) == 0)) (zz_let ((x14 - x14 / ((v9 + ((1 : Int32))).toInt64) * ((v9 + ((1 : Int32))).toInt64)).toInt32) (fun x15 => zz_gd (zz_in v9 12) (zz_let (zz_ga S13 7 v9.toNatClampNeg) (fun x16 => zz_gd (zz_in x15 12) (zz_gd (zz_in v9 12) (zz_let (zz_sa S13 7 (upd (zz_ga S13 7) v9.toNatClampNeg (zz_ga S13 7 x15.toNatClampNeg))) (fun S17 => zz_gd (zz_in x15 12) (zz_let (zz_sa S17 7 (upd (zz_ga S17 7) x15.toNatClampNeg x16)) (fun S18 => zz_let (v9 + (-1 : Int32)) (fun x19 => rc11 x19 S18))))))))))))) N x8 S5)) else (zz_jn2 (fun (v20 : Int32) (S21 : zz_St) => zz_let (v4 + (1 : Int32)) (fun x24 => rc6 v20 x24 S21)) (fun j22 => if (((p1.toUInt32 >>> (v4.toUInt32 &&& Int32.toUInt32 31)).toInt32) &&& ((1 : Int32))) = 0 then (j22 v3 S5) else (zz_gd (zz_in v3 12) (zz_let (zz_sa S5 7 (upd (zz_ga S5 7) v3.toNatClampNeg v4)) (fun S25 => zz_let (v3 + (1 : Int32)) (fun x26 => j22 x26 S25))))))) N x1 x2 S))
theorem zi_X6_putInOrder_X6 : ∀ w ∈ wsX60, w ∈ wsX6_putInOrder := by decide +kernel
theorem zm_X6_putInOrder_58 : Cond.fieldLink RX6 58 "GridRipUp" "netCount" "I" ∈ wsX6_putInOrder := by decide +kernel
theorem zm_X6_putInOrder_54 : Cond.fieldLink RX6 54 "GridRipUp" "turns" "[I" ∈ wsX6_putInOrder := by decide +kernel
theorem zd_X6_putInOrder : yX6_putInOrder.cls = RX6 ∧ yX6_putInOrder.cls ≠ "java/lang/invoke/MethodHandle" ∧ yX6_putInOrder.cls ≠ "java/lang/invoke/VarHandle" ∧ (parseMethodDescriptor yX6_putInOrder.desc).map (fun d => d.parameters.length) = some 1 := by decide +kernel
set_option maxHeartbeats 4000000 in
set_option maxRecDepth 100000 in
theorem zc_X6_putInOrder (N : Nat) (l : Launch) (D : va_G) (k : Nat → ClassId) {a : Nat → Nat} {z : Nat} (S : zz_St) (p1 : Int32)  (v : Int32) (u : zz_St) (h : zf_X6_putInOrder N z S p1 = some (v, u)) : zz_MI l yX6_putInOrder wsX6_putInOrder ({ frames := 1, cells := 0, slots := 0, locals := 20 } : Room) D k (zz_wC a k z) [.ref (a 0), .int p1] S (v, u) := by
  refine zz_metI (cc := cX6_putInOrder) (nL := 6) (ty := .int) (by decide) rfl (Nat.le_of_ble_eq_true rfl) ?_
  intro X C hret
  have C : zz_ok X cX6_putInOrder RX6 wsX6_putInOrder k 6 ({ frames := 1, cells := 0, slots := 0, locals := 20 } : Room) := C
  unfold zf_X6_putInOrder at h
  show zz_ww X (0, 0) (zz_wC a k z S) 0 [(0, .ref (a 0)), (1, .int p1)] []
  refine zr_ic (v := (0 : Int32)) C dX6_putInOrder_0 (by decide) rfl ?_
  refine zr_isn C [1, 2, 0] dX6_putInOrder_1 rfl rfl (by decide) (fun x1 => [(0, .ref (a 0)), (1, .int p1), (2, .int x1)]) h (fun _ => rfl) (fun x1 h => ?_)
  refine zr_ic (v := (0 : Int32)) C dX6_putInOrder_2 (by decide) rfl ?_
  refine zr_isn C [1, 2, 3, 0] dX6_putInOrder_3 rfl rfl (by decide) (fun x2 => [(0, .ref (a 0)), (1, .int p1), (2, .int x1), (3, .int x2)]) h (fun _ => rfl) (fun x2 h => ?_)
  refine zz_fix3_W (fun (v3 : Int32) (v4 : Int32) (S5 : zz_St) => zz_ww X (0, 0) (zz_wC a k z S5) 4 [(0, .ref (a 0)), (1, .int p1), (2, .int v3), (3, .int v4)] []) ?_ N x1 x2 S h
  intro rc6 hr7 v3 v4 S5 h
  refine zr_iln C 3 dX6_putInOrder_4 rfl rfl rfl ?_
  refine zr_aln C 0 dX6_putInOrder_5 rfl rfl rfl ?_
  refine zg_X6_6 C zi_X6_putInOrder_X6 zm_X6_putInOrder_58 dX6_putInOrder_6 rfl ?_
  refine zr_icmp_ge (tgt := 36) C dX6_putInOrder_9 (by decide) rfl h (fun h => ?_) (fun h => ?_)
  · refine zr_iln C 2 dX6_putInOrder_36 rfl rfl rfl ?_
    refine zr_ic (v := (1 : Int32)) C dX6_putInOrder_37 (by decide) rfl ?_
    refine zr_isub C dX6_putInOrder_38 rfl ?_
    refine zr_isn C [1, 2, 3, 0] dX6_putInOrder_39 rfl rfl (by decide) (fun x8 => [(0, .ref (a 0)), (1, .int p1), (2, .int v3), (3, .int x8)]) h (fun _ => rfl) (fun x8 h => ?_)
    refine zr_sub [0, 2, 3] rfl ?_
    refine zz_fix2_W (fun (v9 : Int32) (S10 : zz_St) => zz_ww X (0, 0) (zz_wC a k z S10) 40 [(0, .ref (a 0)), (2, .int v3), (3, .int v9)] []) ?_ N x8 S5 h
    intro rc11 hr12 v9 S10 h
    refine zr_iln C 2 dX6_putInOrder_40 rfl rfl rfl ?_
    refine zr_ic (v := (1 : Int32)) C dX6_putInOrder_41 (by decide) rfl ?_
    refine zr_icmp_lt (tgt := 93) C dX6_putInOrder_42 (by decide) rfl h (fun h => ?_) (fun h => ?_)
    · refine zr_iln C 1 dX6_putInOrder_93 rfl rfl rfl ?_
      exact hret v3 S10 94 _ (0, 0) (by decide) (by decide) dX6_putInOrder_94 rfl h
    · refine zr_aln C 0 dX6_putInOrder_45 rfl rfl rfl ?_
      refine zr_cVl (wf := (zz_wC a k z)) (st := []) C (fun l D v u hu => zc_X6_draw N l D k (a := a) (z := z) S10  v u hu) gX6_putInOrder_X6_draw rfl zd_X6_draw ⟨by decide, by decide⟩ ⟨by decide, by decide⟩ rfl ⟨0, 6, _, _, _, zk_C0, rfl⟩ (Nat.le_of_ble_eq_true rfl) rfl dX6_putInOrder_46 rfl rfl h (fun x14 S13 _ h => ?_)
      refine zr_iln C 2 dX6_putInOrder_49 rfl rfl rfl ?_
      refine zr_ic (v := (1 : Int32)) C dX6_putInOrder_50 (by decide) rfl ?_
      refine zr_iadd C dX6_putInOrder_51 rfl ?_
      refine zr_i2l C dX6_putInOrder_52 rfl ?_
      refine zr_lrem C dX6_putInOrder_53 rfl h (fun h => ?_)
      refine zr_l2i C dX6_putInOrder_54 rfl ?_
      refine zr_is C [1, 2, 3, 0] dX6_putInOrder_55 rfl (by decide) (fun x15 => [(0, .ref (a 0)), (2, .int v3), (3, .int v9), (4, .int x15)]) h (fun _ => rfl) (fun x15 h => ?_)
      refine zr_aln C 0 dX6_putInOrder_57 rfl rfl rfl ?_
      refine zg_X6_5 C zi_X6_putInOrder_X6 zm_X6_putInOrder_54 dX6_putInOrder_58 rfl ?_
      refine zr_iln C 2 dX6_putInOrder_61 rfl rfl rfl ?_
      refine zl_C7 C dX6_putInOrder_62 rfl h (fun h => ?_)
      refine zr_is C [1, 2, 3, 4, 0] dX6_putInOrder_63 rfl (by decide) (fun x16 => [(0, .ref (a 0)), (2, .int v3), (3, .int v9), (4, .int x15), (5, .int x16)]) h (fun _ => rfl) (fun x16 h => ?_)
      refine zr_aln C 0 dX6_putInOrder_65 rfl rfl rfl ?_
      refine zg_X6_5 C zi_X6_putInOrder_X6 zm_X6_putInOrder_54 dX6_putInOrder_66 rfl ?_
      refine zr_iln C 2 dX6_putInOrder_69 rfl rfl rfl ?_
      refine zr_aln C 0 dX6_putInOrder_70 rfl rfl rfl ?_
      refine zg_X6_5 C zi_X6_putInOrder_X6 zm_X6_putInOrder_54 dX6_putInOrder_71 rfl ?_
      refine zr_il C 3 dX6_putInOrder_74 rfl rfl ?_
      refine zl_C7 C dX6_putInOrder_76 rfl h (fun h => ?_)
      refine zs_C7 C dX6_putInOrder_77 rfl h (fun S17 h => ?_)
      refine zr_aln C 0 dX6_putInOrder_78 rfl rfl rfl ?_
      refine zg_X6_5 C zi_X6_putInOrder_X6 zm_X6_putInOrder_54 dX6_putInOrder_79 rfl ?_
      refine zr_il C 3 dX6_putInOrder_82 rfl rfl ?_
      refine zr_il C 4 dX6_putInOrder_84 rfl rfl ?_
      refine zs_C7 C dX6_putInOrder_86 rfl h (fun S18 h => ?_)
      refine zr_iinc (v := (-1 : Int32)) C 2 [1, 2, 0, 3, 4] dX6_putInOrder_87 rfl (by decide) rfl (by decide) (fun x19 => [(0, .ref (a 0)), (2, .int v3), (3, .int x19), (4, .int x15), (5, .int x16)]) h (fun _ => rfl) (fun x19 h => ?_)
      refine zr_goto (tgt := 40) C dX6_putInOrder_90 (by decide) ?_
      refine zr_sub [0, 1, 2] rfl ?_
      exact hr12 x19 S18 h
  · refine zr_iln C 1 dX6_putInOrder_12 rfl rfl rfl ?_
    refine zr_iln C 3 dX6_putInOrder_13 rfl rfl rfl ?_
    refine zr_iushr C dX6_putInOrder_14 rfl ?_
    refine zr_ic (v := (1 : Int32)) C dX6_putInOrder_15 (by decide) rfl ?_
    refine zr_iand C dX6_putInOrder_16 rfl ?_
    refine zz_jn2_W h (fun (v20 : Int32) (S21 : zz_St) => zz_ww X (0, 0) (zz_wC a k z S21) 30 [(0, .ref (a 0)), (1, .int p1), (2, .int v20), (3, .int v4)] []) ?_ ?_
    · intro v20 S21 h
      refine zr_iinc (v := (1 : Int32)) C 3 [1, 2, 3, 0] dX6_putInOrder_30 rfl (by decide) rfl (by decide) (fun x24 => [(0, .ref (a 0)), (1, .int p1), (2, .int v20), (3, .int x24)]) h (fun _ => rfl) (fun x24 h => ?_)
      refine zr_goto (tgt := 4) C dX6_putInOrder_33 (by decide) ?_
      exact hr7 v20 x24 S21 h
    intro j22 hj23 h
    refine zr_if_eq (tgt := 30) C dX6_putInOrder_17 (by decide) rfl h (fun h => ?_) (fun h => ?_)
    · exact hj23 v3 S5 h
    · refine zr_aln C 0 dX6_putInOrder_20 rfl rfl rfl ?_
      refine zg_X6_5 C zi_X6_putInOrder_X6 zm_X6_putInOrder_54 dX6_putInOrder_21 rfl ?_
      refine zr_iln C 2 dX6_putInOrder_24 rfl rfl rfl ?_
      refine zr_iln C 3 dX6_putInOrder_25 rfl rfl rfl ?_
      refine zs_C7 C dX6_putInOrder_26 rfl h (fun S25 h => ?_)
      refine zr_iinc (v := (1 : Int32)) C 2 [1, 2, 0, 3] dX6_putInOrder_27 rfl (by decide) rfl (by decide) (fun x26 => [(0, .ref (a 0)), (1, .int p1), (2, .int x26), (3, .int v4)]) h (fun _ => rfl) (fun x26 h => ?_)
      exact hj23 x26 S25 h

def zf_X6_joinFrom (N : Nat) (z : Nat) (S : zz_St) (p1 : Int32) (p2 : Int32) : Option (Int32 × zz_St) := zz_let ((0 : Int32)) (fun x1 => zz_let p1 (fun x2 => zz_let ((0 : Int32)) (fun x3 => zz_fix4 (fun rc8 (v4 : Int32) (v5 : Int32) (v6 : Int32) (S7 : zz_St) => zz_jn1 (fun (u10 : Unit) => some (v4, S7)) (fun j11 => if (zz_gi S7 6) ≤ v6 then (j11 ()) else (if v5 = ((-1 : Int32)) then (j11 ()) else (zz_gd (zz_in v5 z) (if (lg_cmp (zz_gA S7 17 v5.toNatClampNeg) ((0 : Int64))) ≤ 0 then (j11 ()) else (zz_b1 (zf_X1_heldByOther N z S7 v5 p2) (fun x13 => zz_jn2 (fun (v14 : Int32) (S15 : zz_St) => zz_b1 (zf_X5_add N z S15 v5) (fun S18 => zz_b1 (zf_X4_stepBack N z S18 v5) (fun x19 => zz_let x19 (fun x20 => zz_let (v6 + (1 : Int32)) (fun x21 => rc8 v14 x20 x21 S18))))) (fun j16 => if x13 = 0 then (j16 v4 S7) else (zz_gd (zz_in v5 z) (zz_let (v4 ||| (((1 : Int32)) <<< ((zz_ga S7 10 v5.toNatClampNeg) &&& 31))) (fun x22 => zz_gd (zz_in v5 z) (zz_gd (zz_in v5 z) (zz_let (zz_sA S7 12 (vp_updL (zz_gA S7 12) v5.toNatClampNeg ((zz_gA S7 12 v5.toNatClampNeg) + ((1 : Int64))))) (fun S23 => j16 x22 S23)))))))))))))) N x1 x2 x3 S)))
theorem zi_X6_joinFrom_X6 : ∀ w ∈ wsX60, w ∈ wsX6_joinFrom := by decide +kernel
theorem zm_X6_joinFrom_12 : Cond.fieldLink RX6 12 "GridRipUp" "grid" "LGridRipUp$Grid;" ∈ wsX6_joinFrom := by decide +kernel
theorem zi_X6_joinFrom_X1 : ∀ w ∈ wsX10, w ∈ wsX6_joinFrom := by decide +kernel
theorem zm_X6_joinFrom_36 : Cond.fieldLink RX6 36 "GridRipUp$Grid" "cells" "I" ∈ wsX6_joinFrom := by decide +kernel
theorem zm_X6_joinFrom_30 : Cond.fieldLink RX6 30 "GridRipUp" "search" "LGridRipUp$Search;" ∈ wsX6_joinFrom := by decide +kernel
theorem zi_X6_joinFrom_X4 : ∀ w ∈ wsX40, w ∈ wsX6_joinFrom := by decide +kernel
theorem zm_X6_joinFrom_232 : Cond.fieldLink RX6 232 "GridRipUp$Search" "distance" "[J" ∈ wsX6_joinFrom := by decide +kernel
theorem zm_X6_joinFrom_43 : Cond.fieldLink RX6 43 "GridRipUp" "tree" "LGridRipUp$Tree;" ∈ wsX6_joinFrom := by decide +kernel
theorem zm_X6_joinFrom_76 : Cond.fieldLink RX6 76 "GridRipUp$Grid" "holder" "[I" ∈ wsX6_joinFrom := by decide +kernel
theorem zm_X6_joinFrom_165 : Cond.fieldLink RX6 165 "GridRipUp$Grid" "scars" "[J" ∈ wsX6_joinFrom := by decide +kernel
theorem zd_X6_joinFrom : yX6_joinFrom.cls = RX6 ∧ yX6_joinFrom.cls ≠ "java/lang/invoke/MethodHandle" ∧ yX6_joinFrom.cls ≠ "java/lang/invoke/VarHandle" ∧ (parseMethodDescriptor yX6_joinFrom.desc).map (fun d => d.parameters.length) = some 2 := by decide +kernel
set_option maxHeartbeats 4000000 in
set_option maxRecDepth 100000 in
theorem zc_X6_joinFrom (N : Nat) (l : Launch) (D : va_G) (k : Nat → ClassId) {a : Nat → Nat} {z : Nat} (S : zz_St) (p1 : Int32) (p2 : Int32)  (v : Int32) (u : zz_St) (h : zf_X6_joinFrom N z S p1 p2 = some (v, u)) : zz_MI l yX6_joinFrom wsX6_joinFrom ({ frames := 2, cells := 0, slots := 0, locals := 48 } : Room) D k (zz_wC a k z) [.ref (a 0), .int p1, .int p2] S (v, u) := by
  refine zz_metI (cc := cX6_joinFrom) (nL := 6) (ty := .int) (by decide) rfl (Nat.le_of_ble_eq_true rfl) ?_
  intro X C hret
  have C : zz_ok X cX6_joinFrom RX6 wsX6_joinFrom k 6 ({ frames := 2, cells := 0, slots := 0, locals := 48 } : Room) := C
  unfold zf_X6_joinFrom at h
  show zz_ww X (0, 0) (zz_wC a k z S) 0 [(0, .ref (a 0)), (1, .int p1), (2, .int p2)] []
  refine zr_ic (v := (0 : Int32)) C dX6_joinFrom_0 (by decide) rfl ?_
  refine zr_isn C [1, 2, 3, 0] dX6_joinFrom_1 rfl rfl (by decide) (fun x1 => [(0, .ref (a 0)), (1, .int p1), (2, .int p2), (3, .int x1)]) h (fun _ => rfl) (fun x1 h => ?_)
  refine zr_iln C 1 dX6_joinFrom_2 rfl rfl rfl ?_
  refine zr_is C [1, 2, 3, 4, 0] dX6_joinFrom_3 rfl (by decide) (fun x2 => [(0, .ref (a 0)), (1, .int p1), (2, .int p2), (3, .int x1), (4, .int x2)]) h (fun _ => rfl) (fun x2 h => ?_)
  refine zr_ic (v := (0 : Int32)) C dX6_joinFrom_5 (by decide) rfl ?_
  refine zr_is C [1, 2, 3, 4, 5, 0] dX6_joinFrom_6 rfl (by decide) (fun x3 => [(0, .ref (a 0)), (1, .int p1), (2, .int p2), (3, .int x1), (4, .int x2), (5, .int x3)]) h (fun _ => rfl) (fun x3 h => ?_)
  refine zr_sub [0, 2, 3, 4, 5] rfl ?_
  refine zz_fix4_W (fun (v4 : Int32) (v5 : Int32) (v6 : Int32) (S7 : zz_St) => zz_ww X (0, 0) (zz_wC a k z S7) 8 [(0, .ref (a 0)), (2, .int p2), (3, .int v4), (4, .int v5), (5, .int v6)] []) ?_ N x1 x2 x3 S h
  intro rc8 hr9 v4 v5 v6 S7 h
  refine zr_il C 4 dX6_joinFrom_8 rfl rfl ?_
  refine zr_aln C 0 dX6_joinFrom_10 rfl rfl rfl ?_
  refine zg_X6_0 C zi_X6_joinFrom_X6 zm_X6_joinFrom_12 dX6_joinFrom_11 rfl ?_
  refine zg_X1_4 C zi_X6_joinFrom_X1 zm_X6_joinFrom_36 dX6_joinFrom_14 rfl ?_
  refine zz_jn1_W h (fun (u10 : Unit) => zz_ww X (0, 0) (zz_wC a k z S7) 109 [(3, .int v4)] []) ?_ ?_
  · intro u10 h
    refine zr_iln C 0 dX6_joinFrom_109 rfl rfl rfl ?_
    exact hret v4 S7 110 _ (0, 0) (by decide) (by decide) dX6_joinFrom_110 rfl h
  intro j11 hj12 h
  refine zr_icmp_ge (tgt := 109) C dX6_joinFrom_17 (by decide) rfl h (fun h => ?_) (fun h => ?_)
  · refine zr_sub [2] rfl ?_
    exact hj12 () h
  · refine zr_il C 3 dX6_joinFrom_20 rfl rfl ?_
    refine zr_ic (v := (-1 : Int32)) C dX6_joinFrom_22 (by decide) rfl ?_
    refine zr_icmp_eq (tgt := 109) C dX6_joinFrom_23 (by decide) rfl h (fun h => ?_) (fun h => ?_)
    · refine zr_sub [2] rfl ?_
      exact hj12 () h
    · refine zr_aln C 0 dX6_joinFrom_26 rfl rfl rfl ?_
      refine zg_X6_2 C zi_X6_joinFrom_X6 zm_X6_joinFrom_30 dX6_joinFrom_27 rfl ?_
      refine zg_X4_2 C zi_X6_joinFrom_X4 zm_X6_joinFrom_232 dX6_joinFrom_30 rfl ?_
      refine zr_il C 3 dX6_joinFrom_33 rfl rfl ?_
      refine zl_C17 C dX6_joinFrom_35 rfl h (fun h => ?_)
      refine zr_lc (v := 0) C dX6_joinFrom_36 (by decide) rfl ?_
      refine zr_lcmp C dX6_joinFrom_37 rfl ?_
      refine zr_if_le (tgt := 109) C dX6_joinFrom_38 (by decide) rfl h (fun h => ?_) (fun h => ?_)
      · refine zr_sub [2] rfl ?_
        exact hj12 () h
      · refine zr_aln C 0 dX6_joinFrom_41 rfl rfl rfl ?_
        refine zg_X6_0 C zi_X6_joinFrom_X6 zm_X6_joinFrom_12 dX6_joinFrom_42 rfl ?_
        refine zr_il C 3 dX6_joinFrom_45 rfl rfl ?_
        refine zr_iln C 1 dX6_joinFrom_47 rfl rfl rfl ?_
        refine zr_cVir (wf := (zz_wC a k z)) (st := []) C (fun l D v hv => zc_X1_heldByOther N l D k (a := a) (z := z) S7 v5 p2 v hv) gX6_joinFrom_X1_heldByOther rfl zd_X1_heldByOther ⟨by decide, by decide⟩ ⟨by decide, by decide⟩ rfl ⟨1, 1, _, _, _, zk_C1, rfl⟩ (Nat.le_of_ble_eq_true rfl) rfl dX6_joinFrom_48 rfl rfl h (fun x13 _ h => ?_)
        refine zz_jn2_W h (fun (v14 : Int32) (S15 : zz_St) => zz_ww X (0, 0) (zz_wC a k z S15) 83 [(0, .ref (a 0)), (2, .int p2), (3, .int v14), (4, .int v5), (5, .int v6)] []) ?_ ?_
        · intro v14 S15 h
          refine zr_aln C 0 dX6_joinFrom_83 rfl rfl rfl ?_
          refine zg_X6_3 C zi_X6_joinFrom_X6 zm_X6_joinFrom_43 dX6_joinFrom_84 rfl ?_
          refine zr_il C 3 dX6_joinFrom_87 rfl rfl ?_
          refine zr_cVv (wf := (zz_wC a k z)) (st := []) C (fun l D u hu => zc_X5_add N l D k (a := a) (z := z) S15 v5 u hu) gX6_joinFrom_X5_add rfl zd_X5_add ⟨by decide, by decide⟩ ⟨by decide, by decide⟩ rfl ⟨4, 5, _, _, _, zk_C4, rfl⟩ (Nat.le_of_ble_eq_true rfl) rfl dX6_joinFrom_89 rfl rfl h (fun S18 _ h => ?_)
          refine zr_aln C 0 dX6_joinFrom_92 rfl rfl rfl ?_
          refine zg_X6_2 C zi_X6_joinFrom_X6 zm_X6_joinFrom_30 dX6_joinFrom_93 rfl ?_
          refine zr_il C 3 dX6_joinFrom_96 rfl rfl ?_
          refine zr_cVir (wf := (zz_wC a k z)) (st := []) C (fun l D v hv => zc_X4_stepBack N l D k (a := a) (z := z) S18 v5 v hv) gX6_joinFrom_X4_stepBack rfl zd_X4_stepBack ⟨by decide, by decide⟩ ⟨by decide, by decide⟩ rfl ⟨3, 4, _, _, _, zk_C3, rfl⟩ (Nat.le_of_ble_eq_true rfl) rfl dX6_joinFrom_98 rfl rfl h (fun x19 _ h => ?_)
          refine zr_is C [1, 2, 3, 0, 4] dX6_joinFrom_101 rfl (by decide) (fun x20 => [(0, .ref (a 0)), (2, .int p2), (3, .int v14), (4, .int x20), (5, .int v6)]) h (fun _ => rfl) (fun x20 h => ?_)
          refine zr_iinc (v := (1 : Int32)) C 4 [1, 2, 3, 4, 0] dX6_joinFrom_103 rfl (by decide) rfl (by decide) (fun x21 => [(0, .ref (a 0)), (2, .int p2), (3, .int v14), (4, .int x20), (5, .int x21)]) h (fun _ => rfl) (fun x21 h => ?_)
          refine zr_goto (tgt := 8) C dX6_joinFrom_106 (by decide) ?_
          exact hr9 v14 x20 x21 S18 h
        intro j16 hj17 h
        refine zr_if_eq (tgt := 83) C dX6_joinFrom_51 (by decide) rfl h (fun h => ?_) (fun h => ?_)
        · exact hj17 v4 S7 h
        · refine zr_iln C 2 dX6_joinFrom_54 rfl rfl rfl ?_
          refine zr_ic (v := (1 : Int32)) C dX6_joinFrom_55 (by decide) rfl ?_
          refine zr_aln C 0 dX6_joinFrom_56 rfl rfl rfl ?_
          refine zg_X6_0 C zi_X6_joinFrom_X6 zm_X6_joinFrom_12 dX6_joinFrom_57 rfl ?_
          refine zg_X1_7 C zi_X6_joinFrom_X1 zm_X6_joinFrom_76 dX6_joinFrom_60 rfl ?_
          refine zr_il C 3 dX6_joinFrom_63 rfl rfl ?_
          refine zl_C10 C dX6_joinFrom_65 rfl h (fun h => ?_)
          refine zr_ishl C dX6_joinFrom_66 rfl ?_
          refine zr_ior C dX6_joinFrom_67 rfl ?_
          refine zr_isn C [1, 2, 0, 3, 4] dX6_joinFrom_68 rfl rfl (by decide) (fun x22 => [(0, .ref (a 0)), (2, .int p2), (3, .int x22), (4, .int v5), (5, .int v6)]) h (fun _ => rfl) (fun x22 h => ?_)
          refine zr_aln C 0 dX6_joinFrom_69 rfl rfl rfl ?_
          refine zg_X6_0 C zi_X6_joinFrom_X6 zm_X6_joinFrom_12 dX6_joinFrom_70 rfl ?_
          refine zg_X1_9 C zi_X6_joinFrom_X1 zm_X6_joinFrom_165 dX6_joinFrom_73 rfl ?_
          refine zr_il C 3 dX6_joinFrom_76 rfl rfl ?_
          refine zr_dup2 C dX6_joinFrom_78 rfl rfl rfl ?_
          refine zl_C12 C dX6_joinFrom_79 rfl h (fun h => ?_)
          refine zr_lc (v := 1) C dX6_joinFrom_80 (by decide) rfl ?_
          refine zr_ladd C dX6_joinFrom_81 rfl ?_
          refine zs_C12 C dX6_joinFrom_82 rfl h (fun S23 h => ?_)
          exact hj17 x22 S23 h

def zf_X6_ripUp (N : Nat) (z : Nat) (S : zz_St) (p1 : Int32) : Option zz_St := zz_let ((0 : Int32)) (fun x1 => zz_fix2 (fun rc4 (v2 : Int32) (S3 : zz_St) => if (zz_gi S3 0) ≤ v2 then (some S3) else (zz_jn1 (fun (S6 : zz_St) => zz_let (v2 + (1 : Int32)) (fun x9 => rc4 x9 S6)) (fun j7 => if (((p1.toUInt32 >>> (v2.toUInt32 &&& Int32.toUInt32 31)).toInt32) &&& ((1 : Int32))) = 0 then (j7 S3) else (zz_b1 (zf_X6_layOpen N z S3 v2) (fun S10 => zz_gd (zz_in v2 12) (zz_let (zz_sa S10 24 (upd (zz_ga S10 24) v2.toNatClampNeg ((zz_ga S10 24 v2.toNatClampNeg) + ((1 : Int32))))) (fun S12 => j7 S12))))))) N x1 S)
theorem zi_X6_ripUp_X6 : ∀ w ∈ wsX60, w ∈ wsX6_ripUp := by decide +kernel
theorem zm_X6_ripUp_58 : Cond.fieldLink RX6 58 "GridRipUp" "netCount" "I" ∈ wsX6_ripUp := by decide +kernel
theorem zm_X6_ripUp_49 : Cond.fieldLink RX6 49 "GridRipUp" "nets" "[LGridRipUp$Net;" ∈ wsX6_ripUp := by decide +kernel
theorem zi_X6_ripUp_X2 : ∀ w ∈ wsX20, w ∈ wsX6_ripUp := by decide +kernel
theorem zm_X6_ripUp_162 : Cond.fieldLink RX6 162 "GridRipUp$Net" "rips" "I" ∈ wsX6_ripUp := by decide +kernel
theorem zd_X6_ripUp : yX6_ripUp.cls = RX6 ∧ yX6_ripUp.cls ≠ "java/lang/invoke/MethodHandle" ∧ yX6_ripUp.cls ≠ "java/lang/invoke/VarHandle" ∧ (parseMethodDescriptor yX6_ripUp.desc).map (fun d => d.parameters.length) = some 1 := by decide +kernel
set_option maxHeartbeats 4000000 in
set_option maxRecDepth 100000 in
theorem zc_X6_ripUp (N : Nat) (l : Launch) (D : va_G) (k : Nat → ClassId) {a : Nat → Nat} {z : Nat} (S : zz_St) (p1 : Int32)  (u : zz_St) (h : zf_X6_ripUp N z S p1 = some u) : zz_MV l yX6_ripUp wsX6_ripUp ({ frames := 2, cells := 0, slots := 0, locals := 43 } : Room) D k (zz_wC a k z) [.ref (a 0), .int p1] S u := by
  refine zz_metV (cc := cX6_ripUp) (nL := 3) (by decide) rfl (Nat.le_of_ble_eq_true rfl) ?_
  intro X C hret
  have C : zz_ok X cX6_ripUp RX6 wsX6_ripUp k 3 ({ frames := 2, cells := 0, slots := 0, locals := 43 } : Room) := C
  unfold zf_X6_ripUp at h
  show zz_ww X (0, 0) (zz_wC a k z S) 0 [(0, .ref (a 0)), (1, .int p1)] []
  refine zr_ic (v := (0 : Int32)) C dX6_ripUp_0 (by decide) rfl ?_
  refine zr_isn C [1, 2, 0] dX6_ripUp_1 rfl rfl (by decide) (fun x1 => [(0, .ref (a 0)), (1, .int p1), (2, .int x1)]) h (fun _ => rfl) (fun x1 h => ?_)
  refine zz_fix2_W (fun (v2 : Int32) (S3 : zz_St) => zz_ww X (0, 0) (zz_wC a k z S3) 2 [(0, .ref (a 0)), (1, .int p1), (2, .int v2)] []) ?_ N x1 S h
  intro rc4 hr5 v2 S3 h
  refine zr_iln C 2 dX6_ripUp_2 rfl rfl rfl ?_
  refine zr_aln C 0 dX6_ripUp_3 rfl rfl rfl ?_
  refine zg_X6_6 C zi_X6_ripUp_X6 zm_X6_ripUp_58 dX6_ripUp_4 rfl ?_
  refine zr_icmp_ge (tgt := 44) C dX6_ripUp_7 (by decide) rfl h (fun h => ?_) (fun h => ?_)
  · exact hret S3 44 _ (0, 0) (by decide) (by decide) dX6_ripUp_44 h
  · refine zr_iln C 1 dX6_ripUp_10 rfl rfl rfl ?_
    refine zr_iln C 2 dX6_ripUp_11 rfl rfl rfl ?_
    refine zr_iushr C dX6_ripUp_12 rfl ?_
    refine zr_ic (v := (1 : Int32)) C dX6_ripUp_13 (by decide) rfl ?_
    refine zr_iand C dX6_ripUp_14 rfl ?_
    refine zz_jn1_W h (fun (S6 : zz_St) => zz_ww X (0, 0) (zz_wC a k z S6) 38 [(0, .ref (a 0)), (1, .int p1), (2, .int v2)] []) ?_ ?_
    · intro S6 h
      refine zr_iinc (v := (1 : Int32)) C 2 [1, 2, 0] dX6_ripUp_38 rfl (by decide) rfl (by decide) (fun x9 => [(0, .ref (a 0)), (1, .int p1), (2, .int x9)]) h (fun _ => rfl) (fun x9 h => ?_)
      refine zr_goto (tgt := 2) C dX6_ripUp_41 (by decide) ?_
      exact hr5 x9 S6 h
    intro j7 hj8 h
    refine zr_if_eq (tgt := 38) C dX6_ripUp_15 (by decide) rfl h (fun h => ?_) (fun h => ?_)
    · exact hj8 S3 h
    · refine zr_aln C 0 dX6_ripUp_18 rfl rfl rfl ?_
      refine zr_iln C 2 dX6_ripUp_19 rfl rfl rfl ?_
      refine zr_cVv (wf := (zz_wC a k z)) (st := []) C (fun l D u hu => zc_X6_layOpen N l D k (a := a) (z := z) S3 v2 u hu) gX6_ripUp_X6_layOpen rfl zd_X6_layOpen ⟨by decide, by decide⟩ ⟨by decide, by decide⟩ rfl ⟨0, 6, _, _, _, zk_C0, rfl⟩ (Nat.le_of_ble_eq_true rfl) rfl dX6_ripUp_20 rfl rfl h (fun S10 _ h => ?_)
      refine zr_aln C 0 dX6_ripUp_23 rfl rfl rfl ?_
      refine zg_X6_4 C zi_X6_ripUp_X6 zm_X6_ripUp_49 dX6_ripUp_24 rfl ?_
      refine zr_iln C 2 dX6_ripUp_27 rfl rfl rfl ?_
      refine zl_C6 C dX6_ripUp_28 rfl h (fun hn11 h => ?_)
      refine zr_dup C dX6_ripUp_29 rfl rfl ?_
      refine zg_X2_5 C hn11 zi_X6_ripUp_X2 zm_X6_ripUp_162 dX6_ripUp_30 rfl ?_
      refine zr_ic (v := (1 : Int32)) C dX6_ripUp_33 (by decide) rfl ?_
      refine zr_iadd C dX6_ripUp_34 rfl ?_
      refine zp_X2_5 C hn11 zi_X6_ripUp_X2 zm_X6_ripUp_162 dX6_ripUp_35 rfl h (fun S12 h => ?_)
      exact hj8 S12 h

def zf_X6_lead (N : Nat) (z : Nat) (S : zz_St) (p1 : Int32) : Option zz_St := zz_gd (zz_in p1 12) (zz_let (zz_sA S 21 (vp_updL (zz_gA S 21) p1.toNatClampNeg ((0 : Int64)))) (fun S2 => zz_let (zz_sa S2 23 (upd (zz_ga S2 23) p1.toNatClampNeg ((0 : Int32)))) (fun S3 => zz_gd (zz_in ((0 : Int32)) 5) (zz_b1 (zf_X5_startAt N z S3 (zz_gp S3 p1.toNatClampNeg ((0 : Int32)).toNatClampNeg)) (fun S4 => zz_let ((1 : Int32)) (fun x5 => zz_fix2 (fun rc8 (v6 : Int32) (S7 : zz_St) => if (zz_ga S7 21 p1.toNatClampNeg) ≤ v6 then (zz_let (zz_sa S7 22 (upd (zz_ga S7 22) p1.toNatClampNeg ((1 : Int32)))) (fun S10 => zz_b1 (zf_X5_holdFor N z S10 p1) (fun S11 => some S11))) else (zz_b2 (zf_X4_reachesPin N z S7 p1 ((0 : Int32))) (fun x13 S12 => zz_jn1 (fun (S14 : zz_St) => zz_b1 (zf_X4_nearestPin N z S14 p1.toNatClampNeg) (fun x17 => zz_let x17 (fun x18 => zz_jn1 (fun (S19 : zz_St) => zz_let (v6 + (1 : Int32)) (fun x22 => rc8 x22 S19)) (fun j20 => if x18 = ((-1 : Int32)) then (j20 S14) else (zz_gd (zz_in x18 z) (zz_let (zz_sA S14 21 (vp_updL (zz_gA S14 21) p1.toNatClampNeg ((zz_gA S14 21 p1.toNatClampNeg) + (zz_gA S14 17 x18.toNatClampNeg)))) (fun S23 => zz_b2 (zf_X6_joinFrom N z S23 x18 p1) (fun x25 S24 => zz_b1 (zf_X6_ripUp N z S24 x25) (fun S26 => j20 S26))))))))) (fun j15 => if x13 = 0 then (zz_b1 (zf_X4_holdersAround N z S12 p1) (fun x27 => zz_let x27 (fun x28 => zz_b2 (zf_X4_reachesPin N z S12 p1 ((1 : Int32))) (fun x30 S29 => if x30 = 0 then (zz_let (zz_sa S29 23 (upd (zz_ga S29 23) p1.toNatClampNeg x28)) (fun S31 => some S31)) else (j15 S29))))) else (j15 S12))))) N x5 S4))))))
theorem zi_X6_lead_X6 : ∀ w ∈ wsX60, w ∈ wsX6_lead := by decide +kernel
theorem zm_X6_lead_49 : Cond.fieldLink RX6 49 "GridRipUp" "nets" "[LGridRipUp$Net;" ∈ wsX6_lead := by decide +kernel
theorem zi_X6_lead_X2 : ∀ w ∈ wsX20, w ∈ wsX6_lead := by decide +kernel
theorem zm_X6_lead_157 : Cond.fieldLink RX6 157 "GridRipUp$Net" "price" "J" ∈ wsX6_lead := by decide +kernel
theorem zm_X6_lead_172 : Cond.fieldLink RX6 172 "GridRipUp$Net" "blockers" "I" ∈ wsX6_lead := by decide +kernel
theorem zm_X6_lead_43 : Cond.fieldLink RX6 43 "GridRipUp" "tree" "LGridRipUp$Tree;" ∈ wsX6_lead := by decide +kernel
theorem zm_X6_lead_212 : Cond.fieldLink RX6 212 "GridRipUp$Net" "pins" "[I" ∈ wsX6_lead := by decide +kernel
theorem zm_X6_lead_218 : Cond.fieldLink RX6 218 "GridRipUp$Net" "pinCount" "I" ∈ wsX6_lead := by decide +kernel
theorem zm_X6_lead_138 : Cond.fieldLink RX6 138 "GridRipUp$Net" "led" "Z" ∈ wsX6_lead := by decide +kernel
theorem zm_X6_lead_12 : Cond.fieldLink RX6 12 "GridRipUp" "grid" "LGridRipUp$Grid;" ∈ wsX6_lead := by decide +kernel
theorem zm_X6_lead_30 : Cond.fieldLink RX6 30 "GridRipUp" "search" "LGridRipUp$Search;" ∈ wsX6_lead := by decide +kernel
theorem zi_X6_lead_X4 : ∀ w ∈ wsX40, w ∈ wsX6_lead := by decide +kernel
theorem zm_X6_lead_232 : Cond.fieldLink RX6 232 "GridRipUp$Search" "distance" "[J" ∈ wsX6_lead := by decide +kernel
theorem zd_X6_lead : yX6_lead.cls = RX6 ∧ yX6_lead.cls ≠ "java/lang/invoke/MethodHandle" ∧ yX6_lead.cls ≠ "java/lang/invoke/VarHandle" ∧ (parseMethodDescriptor yX6_lead.desc).map (fun d => d.parameters.length) = some 1 := by decide +kernel
set_option maxHeartbeats 4000000 in
set_option maxRecDepth 100000 in
theorem zc_X6_lead (N : Nat) (l : Launch) (D : va_G) (k : Nat → ClassId) {a : Nat → Nat} {z : Nat} (S : zz_St) (p1 : Int32)  (u : zz_St) (h : zf_X6_lead N z S p1 = some u) : zz_MV l yX6_lead wsX6_lead ({ frames := 4, cells := 0, slots := 0, locals := 97 } : Room) D k (zz_wC a k z) [.ref (a 0), .int p1] S u := by
  refine zz_metV (cc := cX6_lead) (nL := 5) (by decide) rfl (Nat.le_of_ble_eq_true rfl) ?_
  intro X C hret
  have C : zz_ok X cX6_lead RX6 wsX6_lead k 5 ({ frames := 4, cells := 0, slots := 0, locals := 97 } : Room) := C
  unfold zf_X6_lead at h
  show zz_ww X (0, 0) (zz_wC a k z S) 0 [(0, .ref (a 0)), (1, .int p1)] []
  refine zr_aln C 0 dX6_lead_0 rfl rfl rfl ?_
  refine zg_X6_4 C zi_X6_lead_X6 zm_X6_lead_49 dX6_lead_1 rfl ?_
  refine zr_iln C 1 dX6_lead_4 rfl rfl rfl ?_
  refine zl_C6 C dX6_lead_5 rfl h (fun hn1 h => ?_)
  refine zr_asn C [1, 2, 0] dX6_lead_6 rfl rfl (by decide) rfl ?_
  refine zr_aln C 2 dX6_lead_7 rfl rfl rfl ?_
  refine zr_lc (v := 0) C dX6_lead_8 (by decide) rfl ?_
  refine zp_X2_3 C hn1 zi_X6_lead_X2 zm_X6_lead_157 dX6_lead_9 rfl h (fun S2 h => ?_)
  refine zr_aln C 2 dX6_lead_12 rfl rfl rfl ?_
  refine zr_ic (v := (0 : Int32)) C dX6_lead_13 (by decide) rfl ?_
  refine zp_X2_4 C hn1 zi_X6_lead_X2 zm_X6_lead_172 dX6_lead_14 rfl h (fun S3 h => ?_)
  refine zr_aln C 0 dX6_lead_17 rfl rfl rfl ?_
  refine zg_X6_3 C zi_X6_lead_X6 zm_X6_lead_43 dX6_lead_18 rfl ?_
  refine zr_aln C 2 dX6_lead_21 rfl rfl rfl ?_
  refine zg_X2_0 C hn1 zi_X6_lead_X2 zm_X6_lead_212 dX6_lead_22 rfl ?_
  refine zr_ic (v := (0 : Int32)) C dX6_lead_25 (by decide) rfl ?_
  refine zl_Cp C hn1 dX6_lead_26 rfl h (fun h => ?_)
  refine zr_cVv (wf := (zz_wC a k z)) (st := []) C (fun l D u hu => zc_X5_startAt N l D k (a := a) (z := z) S3 (zz_gp S3 p1.toNatClampNeg ((0 : Int32)).toNatClampNeg) u hu) gX6_lead_X5_startAt rfl zd_X5_startAt ⟨by decide, by decide⟩ ⟨by decide, by decide⟩ rfl ⟨4, 5, _, _, _, zk_C4, rfl⟩ (Nat.le_of_ble_eq_true rfl) rfl dX6_lead_27 rfl rfl h (fun S4 _ h => ?_)
  refine zr_ic (v := (1 : Int32)) C dX6_lead_30 (by decide) rfl ?_
  refine zr_isn C [1, 2, 3, 0] dX6_lead_31 rfl rfl (by decide) (fun x5 => [(0, .ref (a 0)), (1, .int p1), (2, .ref (a (21 + p1.toNatClampNeg))), (3, .int x5)]) h (fun _ => rfl) (fun x5 h => ?_)
  refine zz_fix2_W (fun (v6 : Int32) (S7 : zz_St) => zz_ww X (0, 0) (zz_wC a k z S7) 32 [(0, .ref (a 0)), (1, .int p1), (2, .ref (a (21 + p1.toNatClampNeg))), (3, .int v6)] []) ?_ N x5 S4 h
  intro rc8 hr9 v6 S7 h
  refine zr_iln C 3 dX6_lead_32 rfl rfl rfl ?_
  refine zr_aln C 2 dX6_lead_33 rfl rfl rfl ?_
  refine zg_X2_1 C hn1 zi_X6_lead_X2 zm_X6_lead_218 dX6_lead_34 rfl ?_
  refine zr_icmp_ge (tgt := 141) C dX6_lead_37 (by decide) rfl h (fun h => ?_) (fun h => ?_)
  · refine zr_aln C 2 dX6_lead_141 rfl rfl rfl ?_
    refine zr_ic (v := (1 : Int32)) C dX6_lead_142 (by decide) rfl ?_
    refine zp_X2_2 C hn1 (by decide) zi_X6_lead_X2 zm_X6_lead_138 dX6_lead_143 rfl h (fun S10 h => ?_)
    refine zr_aln C 0 dX6_lead_146 rfl rfl rfl ?_
    refine zg_X6_3 C zi_X6_lead_X6 zm_X6_lead_43 dX6_lead_147 rfl ?_
    refine zr_iln C 1 dX6_lead_150 rfl rfl rfl ?_
    refine zr_aln C 0 dX6_lead_151 rfl rfl rfl ?_
    refine zg_X6_0 C zi_X6_lead_X6 zm_X6_lead_12 dX6_lead_152 rfl ?_
    refine zr_cVv (wf := (zz_wC a k z)) (st := []) C (fun l D u hu => zc_X5_holdFor N l D k (a := a) (z := z) S10 p1 u hu) gX6_lead_X5_holdFor rfl zd_X5_holdFor ⟨by decide, by decide⟩ ⟨by decide, by decide⟩ rfl ⟨4, 5, _, _, _, zk_C4, rfl⟩ (Nat.le_of_ble_eq_true rfl) rfl dX6_lead_155 rfl rfl h (fun S11 _ h => ?_)
    exact hret S11 158 _ (0, 0) (by decide) (by decide) dX6_lead_158 h
  · refine zr_aln C 0 dX6_lead_40 rfl rfl rfl ?_
    refine zg_X6_2 C zi_X6_lead_X6 zm_X6_lead_30 dX6_lead_41 rfl ?_
    refine zr_iln C 1 dX6_lead_44 rfl rfl rfl ?_
    refine zr_aln C 0 dX6_lead_45 rfl rfl rfl ?_
    refine zg_X6_3 C zi_X6_lead_X6 zm_X6_lead_43 dX6_lead_46 rfl ?_
    refine zr_ic (v := (0 : Int32)) C dX6_lead_49 (by decide) rfl ?_
    refine zr_cVi (wf := (zz_wC a k z)) (st := []) C (fun l D v u hu => zc_X4_reachesPin N l D k (a := a) (z := z) S7 p1 ((0 : Int32)) v u hu) gX6_lead_X4_reachesPin rfl zd_X4_reachesPin ⟨by decide, by decide⟩ ⟨by decide, by decide⟩ rfl ⟨3, 4, _, _, _, zk_C3, rfl⟩ (Nat.le_of_ble_eq_true rfl) rfl dX6_lead_50 rfl rfl h (fun x13 S12 _ h => ?_)
    refine zz_jn1_W h (fun (S14 : zz_St) => zz_ww X (0, 0) (zz_wC a k z S14) 89 [(0, .ref (a 0)), (1, .int p1), (2, .ref (a (21 + p1.toNatClampNeg))), (3, .int v6)] []) ?_ ?_
    · intro S14 h
      refine zr_aln C 0 dX6_lead_89 rfl rfl rfl ?_
      refine zg_X6_2 C zi_X6_lead_X6 zm_X6_lead_30 dX6_lead_90 rfl ?_
      refine zr_aln C 2 dX6_lead_93 rfl rfl rfl ?_
      refine zr_cVir (wf := (zz_wC a k z)) (st := []) C (fun l D v hv => zc_X4_nearestPin N l D k (a := a) (z := z) S14 p1.toNatClampNeg hn1 v hv) gX6_lead_X4_nearestPin rfl zd_X4_nearestPin ⟨by decide, by decide⟩ ⟨by decide, by decide⟩ rfl ⟨3, 4, _, _, _, zk_C3, rfl⟩ (Nat.le_of_ble_eq_true rfl) rfl dX6_lead_94 rfl rfl h (fun x17 _ h => ?_)
      refine zr_is C [1, 2, 3, 4, 0] dX6_lead_97 rfl (by decide) (fun x18 => [(0, .ref (a 0)), (1, .int p1), (2, .ref (a (21 + p1.toNatClampNeg))), (3, .int v6), (4, .int x18)]) h (fun _ => rfl) (fun x18 h => ?_)
      refine zr_il C 4 dX6_lead_99 rfl rfl ?_
      refine zr_ic (v := (-1 : Int32)) C dX6_lead_101 (by decide) rfl ?_
      refine zz_jn1_W h (fun (S19 : zz_St) => zz_ww X (0, 0) (zz_wC a k z S19) 135 [(0, .ref (a 0)), (1, .int p1), (2, .ref (a (21 + p1.toNatClampNeg))), (3, .int v6)] []) ?_ ?_
      · intro S19 h
        refine zr_iinc (v := (1 : Int32)) C 3 [1, 2, 3, 0] dX6_lead_135 rfl (by decide) rfl (by decide) (fun x22 => [(0, .ref (a 0)), (1, .int p1), (2, .ref (a (21 + p1.toNatClampNeg))), (3, .int x22)]) h (fun _ => rfl) (fun x22 h => ?_)
        refine zr_goto (tgt := 32) C dX6_lead_138 (by decide) ?_
        exact hr9 x22 S19 h
      intro j20 hj21 h
      refine zr_icmp_eq (tgt := 135) C dX6_lead_102 (by decide) rfl h (fun h => ?_) (fun h => ?_)
      · refine zr_sub [0, 1, 2, 3] rfl ?_
        exact hj21 S14 h
      · refine zr_aln C 2 dX6_lead_105 rfl rfl rfl ?_
        refine zr_dup C dX6_lead_106 rfl rfl ?_
        refine zg_X2_3 C hn1 zi_X6_lead_X2 zm_X6_lead_157 dX6_lead_107 rfl ?_
        refine zr_aln C 0 dX6_lead_110 rfl rfl rfl ?_
        refine zg_X6_2 C zi_X6_lead_X6 zm_X6_lead_30 dX6_lead_111 rfl ?_
        refine zg_X4_2 C zi_X6_lead_X4 zm_X6_lead_232 dX6_lead_114 rfl ?_
        refine zr_il C 4 dX6_lead_117 rfl rfl ?_
        refine zl_C17 C dX6_lead_119 rfl h (fun h => ?_)
        refine zr_ladd C dX6_lead_120 rfl ?_
        refine zp_X2_3 C hn1 zi_X6_lead_X2 zm_X6_lead_157 dX6_lead_121 rfl h (fun S23 h => ?_)
        refine zr_aln C 0 dX6_lead_124 rfl rfl rfl ?_
        refine zr_aln C 0 dX6_lead_125 rfl rfl rfl ?_
        refine zr_il C 4 dX6_lead_126 rfl rfl ?_
        refine zr_iln C 1 dX6_lead_128 rfl rfl rfl ?_
        refine zr_cVi (wf := (zz_wC a k z)) (st := [.ref (a 0)]) C (fun l D v u hu => zc_X6_joinFrom N l D k (a := a) (z := z) S23 x18 p1 v u hu) gX6_lead_X6_joinFrom rfl zd_X6_joinFrom ⟨by decide, by decide⟩ ⟨by decide, by decide⟩ rfl ⟨0, 6, _, _, _, zk_C0, rfl⟩ (Nat.le_of_ble_eq_true rfl) rfl dX6_lead_129 rfl rfl h (fun x25 S24 _ h => ?_)
        refine zr_cVv (wf := (zz_wC a k z)) (st := []) C (fun l D u hu => zc_X6_ripUp N l D k (a := a) (z := z) S24 x25 u hu) gX6_lead_X6_ripUp rfl zd_X6_ripUp ⟨by decide, by decide⟩ ⟨by decide, by decide⟩ rfl ⟨0, 6, _, _, _, zk_C0, rfl⟩ (Nat.le_of_ble_eq_true rfl) rfl dX6_lead_132 rfl rfl h (fun S26 _ h => ?_)
        refine zr_sub [0, 1, 2, 3] rfl ?_
        exact hj21 S26 h
    intro j15 hj16 h
    refine zr_if_ne (tgt := 89) C dX6_lead_53 (by decide) rfl h (fun h => ?_) (fun h => ?_)
    · exact hj16 S12 h
    · refine zr_aln C 0 dX6_lead_56 rfl rfl rfl ?_
      refine zg_X6_2 C zi_X6_lead_X6 zm_X6_lead_30 dX6_lead_57 rfl ?_
      refine zr_iln C 1 dX6_lead_60 rfl rfl rfl ?_
      refine zr_cVir (wf := (zz_wC a k z)) (st := []) C (fun l D v hv => zc_X4_holdersAround N l D k (a := a) (z := z) S12 p1 v hv) gX6_lead_X4_holdersAround rfl zd_X4_holdersAround ⟨by decide, by decide⟩ ⟨by decide, by decide⟩ rfl ⟨3, 4, _, _, _, zk_C3, rfl⟩ (Nat.le_of_ble_eq_true rfl) rfl dX6_lead_61 rfl rfl h (fun x27 _ h => ?_)
      refine zr_is C [1, 2, 3, 4, 0] dX6_lead_64 rfl (by decide) (fun x28 => [(0, .ref (a 0)), (1, .int p1), (2, .ref (a (21 + p1.toNatClampNeg))), (3, .int v6), (4, .int x28)]) h (fun _ => rfl) (fun x28 h => ?_)
      refine zr_aln C 0 dX6_lead_66 rfl rfl rfl ?_
      refine zg_X6_2 C zi_X6_lead_X6 zm_X6_lead_30 dX6_lead_67 rfl ?_
      refine zr_iln C 1 dX6_lead_70 rfl rfl rfl ?_
      refine zr_aln C 0 dX6_lead_71 rfl rfl rfl ?_
      refine zg_X6_3 C zi_X6_lead_X6 zm_X6_lead_43 dX6_lead_72 rfl ?_
      refine zr_ic (v := (1 : Int32)) C dX6_lead_75 (by decide) rfl ?_
      refine zr_cVi (wf := (zz_wC a k z)) (st := []) C (fun l D v u hu => zc_X4_reachesPin N l D k (a := a) (z := z) S12 p1 ((1 : Int32)) v u hu) gX6_lead_X4_reachesPin rfl zd_X4_reachesPin ⟨by decide, by decide⟩ ⟨by decide, by decide⟩ rfl ⟨3, 4, _, _, _, zk_C3, rfl⟩ (Nat.le_of_ble_eq_true rfl) rfl dX6_lead_76 rfl rfl h (fun x30 S29 _ h => ?_)
      refine zr_if_ne (tgt := 89) C dX6_lead_79 (by decide) rfl h (fun h => ?_) (fun h => ?_)
      · refine zr_sub [0, 1, 2, 3] rfl ?_
        exact hj16 S29 h
      · refine zr_aln C 2 dX6_lead_82 rfl rfl rfl ?_
        refine zr_il C 4 dX6_lead_83 rfl rfl ?_
        refine zp_X2_4 C hn1 zi_X6_lead_X2 zm_X6_lead_172 dX6_lead_85 rfl h (fun S31 h => ?_)
        exact hret S31 88 _ (0, 0) (by decide) (by decide) dX6_lead_88 h

def zf_X6_playRound (N : Nat) (z : Nat) (S : zz_St)  : Option zz_St := zz_b1 (zf_X6_openNets N z S) (fun x1 => zz_b2 (zf_X6_putInOrder N z S x1) (fun x3 S2 => zz_let x3 (fun x4 => zz_let ((0 : Int32)) (fun x5 => zz_fix2 (fun rc8 (v6 : Int32) (S7 : zz_St) => if x4 ≤ v6 then (zz_let (zz_si S7 1 ((zz_gi S7 1) + ((1 : Int32)))) (fun S10 => some S10)) else (zz_gd (zz_in v6 12) (zz_gd (zz_in (zz_ga S7 7 v6.toNatClampNeg) 12) (zz_b1 (zf_X2_isOpen N z S7 ((zz_ga S7 7 v6.toNatClampNeg).toNatClampNeg)) (fun x12 => zz_jn1 (fun (S13 : zz_St) => zz_let (v6 + (1 : Int32)) (fun x16 => rc8 x16 S13)) (fun j14 => if x12 = 0 then (j14 S7) else (zz_gd (zz_in v6 12) (zz_b1 (zf_X6_lead N z S7 (zz_ga S7 7 v6.toNatClampNeg)) (fun S17 => j14 S17))))))))) N x5 S2))))
theorem zi_X6_playRound_X6 : ∀ w ∈ wsX60, w ∈ wsX6_playRound := by decide +kernel
theorem zm_X6_playRound_61 : Cond.fieldLink RX6 61 "GridRipUp" "roundCount" "I" ∈ wsX6_playRound := by decide +kernel
theorem zm_X6_playRound_49 : Cond.fieldLink RX6 49 "GridRipUp" "nets" "[LGridRipUp$Net;" ∈ wsX6_playRound := by decide +kernel
theorem zm_X6_playRound_54 : Cond.fieldLink RX6 54 "GridRipUp" "turns" "[I" ∈ wsX6_playRound := by decide +kernel
theorem zd_X6_playRound : yX6_playRound.cls = RX6 ∧ yX6_playRound.cls ≠ "java/lang/invoke/MethodHandle" ∧ yX6_playRound.cls ≠ "java/lang/invoke/VarHandle" ∧ (parseMethodDescriptor yX6_playRound.desc).map (fun d => d.parameters.length) = some 0 := by decide +kernel
set_option maxHeartbeats 4000000 in
set_option maxRecDepth 100000 in
theorem zc_X6_playRound (N : Nat) (l : Launch) (D : va_G) (k : Nat → ClassId) {a : Nat → Nat} {z : Nat} (S : zz_St)   (u : zz_St) (h : zf_X6_playRound N z S  = some u) : zz_MV l yX6_playRound wsX6_playRound ({ frames := 5, cells := 0, slots := 0, locals := 121 } : Room) D k (zz_wC a k z) [.ref (a 0)] S u := by
  refine zz_metV (cc := cX6_playRound) (nL := 3) (by decide) rfl (Nat.le_of_ble_eq_true rfl) ?_
  intro X C hret
  have C : zz_ok X cX6_playRound RX6 wsX6_playRound k 3 ({ frames := 5, cells := 0, slots := 0, locals := 121 } : Room) := C
  unfold zf_X6_playRound at h
  show zz_ww X (0, 0) (zz_wC a k z S) 0 [(0, .ref (a 0))] []
  refine zr_aln C 0 dX6_playRound_0 rfl rfl rfl ?_
  refine zr_aln C 0 dX6_playRound_1 rfl rfl rfl ?_
  refine zr_cVir (wf := (zz_wC a k z)) (st := [.ref (a 0)]) C (fun l D v hv => zc_X6_openNets N l D k (a := a) (z := z) S  v hv) gX6_playRound_X6_openNets rfl zd_X6_openNets ⟨by decide, by decide⟩ ⟨by decide, by decide⟩ rfl ⟨0, 6, _, _, _, zk_C0, rfl⟩ (Nat.le_of_ble_eq_true rfl) rfl dX6_playRound_2 rfl rfl h (fun x1 _ h => ?_)
  refine zr_cVi (wf := (zz_wC a k z)) (st := []) C (fun l D v u hu => zc_X6_putInOrder N l D k (a := a) (z := z) S x1 v u hu) gX6_playRound_X6_putInOrder rfl zd_X6_putInOrder ⟨by decide, by decide⟩ ⟨by decide, by decide⟩ rfl ⟨0, 6, _, _, _, zk_C0, rfl⟩ (Nat.le_of_ble_eq_true rfl) rfl dX6_playRound_5 rfl rfl h (fun x3 S2 _ h => ?_)
  refine zr_isn C [1, 0] dX6_playRound_8 rfl rfl (by decide) (fun x4 => [(0, .ref (a 0)), (1, .int x4)]) h (fun _ => rfl) (fun x4 h => ?_)
  refine zr_ic (v := (0 : Int32)) C dX6_playRound_9 (by decide) rfl ?_
  refine zr_isn C [1, 2, 0] dX6_playRound_10 rfl rfl (by decide) (fun x5 => [(0, .ref (a 0)), (1, .int x4), (2, .int x5)]) h (fun _ => rfl) (fun x5 h => ?_)
  refine zz_fix2_W (fun (v6 : Int32) (S7 : zz_St) => zz_ww X (0, 0) (zz_wC a k z S7) 11 [(0, .ref (a 0)), (1, .int x4), (2, .int v6)] []) ?_ N x5 S2 h
  intro rc8 hr9 v6 S7 h
  refine zr_iln C 2 dX6_playRound_11 rfl rfl rfl ?_
  refine zr_iln C 1 dX6_playRound_12 rfl rfl rfl ?_
  refine zr_icmp_ge (tgt := 49) C dX6_playRound_13 (by decide) rfl h (fun h => ?_) (fun h => ?_)
  · refine zr_aln C 0 dX6_playRound_49 rfl rfl rfl ?_
    refine zr_dup C dX6_playRound_50 rfl rfl ?_
    refine zg_X6_7 C zi_X6_playRound_X6 zm_X6_playRound_61 dX6_playRound_51 rfl ?_
    refine zr_ic (v := (1 : Int32)) C dX6_playRound_54 (by decide) rfl ?_
    refine zr_iadd C dX6_playRound_55 rfl ?_
    refine zp_X6_7 C zi_X6_playRound_X6 zm_X6_playRound_61 dX6_playRound_56 rfl h (fun S10 h => ?_)
    exact hret S10 59 _ (0, 0) (by decide) (by decide) dX6_playRound_59 h
  · refine zr_aln C 0 dX6_playRound_16 rfl rfl rfl ?_
    refine zg_X6_4 C zi_X6_playRound_X6 zm_X6_playRound_49 dX6_playRound_17 rfl ?_
    refine zr_aln C 0 dX6_playRound_20 rfl rfl rfl ?_
    refine zg_X6_5 C zi_X6_playRound_X6 zm_X6_playRound_54 dX6_playRound_21 rfl ?_
    refine zr_iln C 2 dX6_playRound_24 rfl rfl rfl ?_
    refine zl_C7 C dX6_playRound_25 rfl h (fun h => ?_)
    refine zl_C6 C dX6_playRound_26 rfl h (fun hn11 h => ?_)
    refine zr_cVir (wf := (zz_wC a k z)) (st := []) C (fun l D v hv => zc_X2_isOpen N l D k (a := a) (z := z) S7 ((zz_ga S7 7 v6.toNatClampNeg).toNatClampNeg) hn11 v hv) gX6_playRound_X2_isOpen rfl zd_X2_isOpen ⟨by decide, by decide⟩ ⟨by decide, by decide⟩ rfl ⟨21 + ((zz_ga S7 7 v6.toNatClampNeg).toNatClampNeg), 2, _, _, _, zk_Cn hn11, rfl⟩ (Nat.le_of_ble_eq_true rfl) rfl dX6_playRound_27 rfl rfl h (fun x12 _ h => ?_)
    refine zz_jn1_W h (fun (S13 : zz_St) => zz_ww X (0, 0) (zz_wC a k z S13) 43 [(0, .ref (a 0)), (1, .int x4), (2, .int v6)] []) ?_ ?_
    · intro S13 h
      refine zr_iinc (v := (1 : Int32)) C 2 [1, 2, 0] dX6_playRound_43 rfl (by decide) rfl (by decide) (fun x16 => [(0, .ref (a 0)), (1, .int x4), (2, .int x16)]) h (fun _ => rfl) (fun x16 h => ?_)
      refine zr_goto (tgt := 11) C dX6_playRound_46 (by decide) ?_
      exact hr9 x16 S13 h
    intro j14 hj15 h
    refine zr_if_eq (tgt := 43) C dX6_playRound_30 (by decide) rfl h (fun h => ?_) (fun h => ?_)
    · exact hj15 S7 h
    · refine zr_aln C 0 dX6_playRound_33 rfl rfl rfl ?_
      refine zr_aln C 0 dX6_playRound_34 rfl rfl rfl ?_
      refine zg_X6_5 C zi_X6_playRound_X6 zm_X6_playRound_54 dX6_playRound_35 rfl ?_
      refine zr_iln C 2 dX6_playRound_38 rfl rfl rfl ?_
      refine zl_C7 C dX6_playRound_39 rfl h (fun h => ?_)
      refine zr_cVv (wf := (zz_wC a k z)) (st := []) C (fun l D u hu => zc_X6_lead N l D k (a := a) (z := z) S7 (zz_ga S7 7 v6.toNatClampNeg) u hu) gX6_playRound_X6_lead rfl zd_X6_lead ⟨by decide, by decide⟩ ⟨by decide, by decide⟩ rfl ⟨0, 6, _, _, _, zk_C0, rfl⟩ (Nat.le_of_ble_eq_true rfl) rfl dX6_playRound_40 rfl rfl h (fun S17 _ h => ?_)
      exact hj15 S17 h


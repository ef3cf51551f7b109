theorem zo_X2_init_1 : Cond.methodLink RX2 1 objectInit ∈ wsX2_init := by decide +kernel
theorem zo_X2_init_2 : Cond.instanceMethod objectInit ∈ wsX2_init := by decide +kernel
theorem zo_X2_init_3 : Cond.code objectInit ⟨#[0xb1]⟩ 1 none ∈ wsX2_init := by decide +kernel
theorem zo_X2_init_I : Cond.arrayClass .int ∈ wsX2_init := by decide +kernel
theorem zm_X2_init_9 : Cond.fieldLink RX2 9 "GridRipUp$Net" "pins" "[I" ∈ wsX2_init := by decide +kernel
theorem zi_X2_init_X2 : ∀ w ∈ wsX20, w ∈ wsX2_init := by decide +kernel
theorem zd_X2_init : yX2_init.cls ≠ "java/lang/invoke/MethodHandle" ∧ yX2_init.cls ≠ "java/lang/invoke/VarHandle" ∧ (parseMethodDescriptor yX2_init.desc).map (fun d => d.parameters.length) = some 0 := by decide +kernel
set_option maxHeartbeats 4000000 in
set_option maxRecDepth 100000 in
theorem zc_X2_init (l : Launch) (D : va_G) (k : Nat → ClassId) (h0 : Nat) : zz_MC l yX2_init wsX2_init ({ frames := 1, cells := 1, slots := 5, locals := 40 } : Room) D k (fun _ => True) [.ref h0] [(h0, .inr (2, [.null, .int 0, .int 0, .long 0, .int 0, .int 0]))] (fun u => ∃ q6 : Nat, u = [(h0, .inr (2, [.ref q6, .int 0, .int 0, .long 0, .int 0, .int 0])), (q6, .inl (k 0, 5, .inl (fun _ => 0)))]) := by
  refine zz_metC (cc := cX2_init) (nL := 1) (by decide) rfl rfl (Nat.le_of_ble_eq_true rfl) ?_
  intro X C I E hret
  have C : zz_ok X cX2_init RX2 wsX2_init k 1 ({ frames := 1, cells := 1, slots := 5, locals := 40 } : Room) := C
  show zz_ww X (0, 0) [(h0, .inr (2, [.null, .int 0, .int 0, .long 0, .int 0, .int 0]))] 0 [(0, .ref h0)] []
  refine zr_aln C 0 dX2_init_0 rfl rfl rfl ?_
  refine zr_objinit C zo_X2_init_1 zo_X2_init_2 zo_X2_init_3 ⟨by decide, Nat.le_of_ble_eq_true rfl⟩ dX2_init_1 rfl ?_
  refine zr_aln C 0 dX2_init_4 rfl rfl rfl ?_
  refine zr_ic (v := (5 : Int32)) C dX2_init_5 (by decide) rfl ?_
  refine zr_newaI C zo_X2_init_I 5 (N := 5) rfl (by decide) (by decide) ⟨by decide, by decide⟩ dX2_init_6 rfl rfl (fun q6 => ?_)
  show zz_ww X (1, 5) [(h0, .inr (2, [.null, .int 0, .int 0, .long 0, .int 0, .int 0])), (q6, .inl (k 0, 5, .inl (fun _ => 0)))] 8 [(0, .ref h0)] [.ref q6, .ref h0]
  refine zr_putF (T := TX2) (N := 6) (ci := 2) (ty := .array .int) (w' := [(h0, .inr (2, [.ref q6, .int 0, .int 0, .long 0, .int 0, .int 0])), (q6, .inl (k 0, 5, .inl (fun _ => 0)))]) C I zi_X2_init_X2 tyX2 tyX2_ok nmX2 0 0 rfl rfl (by decide) zm_X2_init_9 rfl rfl (by decide +kernel) rfl rfl (Nat.le_of_ble_eq_true rfl) rfl dX2_init_8 rfl ?_
  exact hret _ 11 _ (1, 5) (by decide) (by decide) dX2_init_11 ⟨q6, rfl⟩
theorem zo_X3_init_1 : Cond.methodLink RX3 1 objectInit ∈ wsX3_init := by decide +kernel
theorem zo_X3_init_2 : Cond.instanceMethod objectInit ∈ wsX3_init := by decide +kernel
theorem zo_X3_init_3 : Cond.code objectInit ⟨#[0xb1]⟩ 1 none ∈ wsX3_init := by decide +kernel
theorem zo_X3_init_I : Cond.arrayClass .int ∈ wsX3_init := by decide +kernel
theorem zm_X3_init_9 : Cond.fieldLink RX3 9 "GridRipUp$Prices" "across" "[I" ∈ wsX3_init := by decide +kernel
theorem zi_X3_init_X3 : ∀ w ∈ wsX30, w ∈ wsX3_init := by decide +kernel
theorem zm_X3_init_15 : Cond.fieldLink RX3 15 "GridRipUp$Prices" "via" "[I" ∈ wsX3_init := by decide +kernel
theorem zm_X3_init_18 : Cond.fieldLink RX3 18 "GridRipUp$Prices" "near" "[I" ∈ wsX3_init := by decide +kernel
theorem zd_X3_init : yX3_init.cls ≠ "java/lang/invoke/MethodHandle" ∧ yX3_init.cls ≠ "java/lang/invoke/VarHandle" ∧ (parseMethodDescriptor yX3_init.desc).map (fun d => d.parameters.length) = some 0 := by decide +kernel
set_option maxHeartbeats 4000000 in
set_option maxRecDepth 100000 in
theorem zc_X3_init (l : Launch) (D : va_G) (k : Nat → ClassId) (h0 : Nat) : zz_MC l yX3_init wsX3_init ({ frames := 1, cells := 3, slots := 12, locals := 40 } : Room) D k (fun _ => True) [.ref h0] [(h0, .inr (3, [.null, .null, .null]))] (fun u => ∃ q6 q13 q20 : Nat, u = [(h0, .inr (3, [.ref q6, .ref q13, .ref q20])), (q6, .inl (k 0, 4, .inl (fun _ => 0))), (q13, .inl (k 0, 4, .inl (fun _ => 0))), (q20, .inl (k 0, 4, .inl (fun _ => 0)))]) := by
  refine zz_metC (cc := cX3_init) (nL := 1) (by decide) rfl rfl (Nat.le_of_ble_eq_true rfl) ?_
  intro X C I E hret
  have C : zz_ok X cX3_init RX3 wsX3_init k 1 ({ frames := 1, cells := 3, slots := 12, locals := 40 } : Room) := C
  show zz_ww X (0, 0) [(h0, .inr (3, [.null, .null, .null]))] 0 [(0, .ref h0)] []
  refine zr_aln C 0 dX3_init_0 rfl rfl rfl ?_
  refine zr_objinit C zo_X3_init_1 zo_X3_init_2 zo_X3_init_3 ⟨by decide, Nat.le_of_ble_eq_true rfl⟩ dX3_init_1 rfl ?_
  refine zr_aln C 0 dX3_init_4 rfl rfl rfl ?_
  refine zr_ic (v := (4 : Int32)) C dX3_init_5 (by decide) rfl ?_
  refine zr_newaI C zo_X3_init_I 4 (N := 4) rfl (by decide) (by decide) ⟨by decide, by decide⟩ dX3_init_6 rfl rfl (fun q6 => ?_)
  show zz_ww X (1, 4) [(h0, .inr (3, [.null, .null, .null])), (q6, .inl (k 0, 4, .inl (fun _ => 0)))] 8 [(0, .ref h0)] [.ref q6, .ref h0]
  refine zr_putF (T := TX3) (N := 3) (ci := 3) (ty := .array .int) (w' := [(h0, .inr (3, [.ref q6, .null, .null])), (q6, .inl (k 0, 4, .inl (fun _ => 0)))]) C I zi_X3_init_X3 tyX3 tyX3_ok nmX3 0 0 rfl rfl (by decide) zm_X3_init_9 rfl rfl (by decide +kernel) rfl rfl (Nat.le_of_ble_eq_true rfl) rfl dX3_init_8 rfl ?_
  refine zr_aln C 0 dX3_init_11 rfl rfl rfl ?_
  refine zr_ic (v := (4 : Int32)) C dX3_init_12 (by decide) rfl ?_
  refine zr_newaI C zo_X3_init_I 4 (N := 4) rfl (by decide) (by decide) ⟨by decide, by decide⟩ dX3_init_13 rfl rfl (fun q13 => ?_)
  show zz_ww X (2, 8) [(h0, .inr (3, [.ref q6, .null, .null])), (q6, .inl (k 0, 4, .inl (fun _ => 0))), (q13, .inl (k 0, 4, .inl (fun _ => 0)))] 15 [(0, .ref h0)] [.ref q13, .ref h0]
  refine zr_putF (T := TX3) (N := 3) (ci := 3) (ty := .array .int) (w' := [(h0, .inr (3, [.ref q6, .ref q13, .null])), (q6, .inl (k 0, 4, .inl (fun _ => 0))), (q13, .inl (k 0, 4, .inl (fun _ => 0)))]) C I zi_X3_init_X3 tyX3 tyX3_ok nmX3 0 1 rfl rfl (by decide) zm_X3_init_15 rfl rfl (by decide +kernel) rfl rfl (Nat.le_of_ble_eq_true rfl) rfl dX3_init_15 rfl ?_
  refine zr_aln C 0 dX3_init_18 rfl rfl rfl ?_
  refine zr_ic (v := (4 : Int32)) C dX3_init_19 (by decide) rfl ?_
  refine zr_newaI C zo_X3_init_I 4 (N := 4) rfl (by decide) (by decide) ⟨by decide, by decide⟩ dX3_init_20 rfl rfl (fun q20 => ?_)
  show zz_ww X (3, 12) [(h0, .inr (3, [.ref q6, .ref q13, .null])), (q6, .inl (k 0, 4, .inl (fun _ => 0))), (q13, .inl (k 0, 4, .inl (fun _ => 0))), (q20, .inl (k 0, 4, .inl (fun _ => 0)))] 22 [(0, .ref h0)] [.ref q20, .ref h0]
  refine zr_putF (T := TX3) (N := 3) (ci := 3) (ty := .array .int) (w' := [(h0, .inr (3, [.ref q6, .ref q13, .ref q20])), (q6, .inl (k 0, 4, .inl (fun _ => 0))), (q13, .inl (k 0, 4, .inl (fun _ => 0))), (q20, .inl (k 0, 4, .inl (fun _ => 0)))]) C I zi_X3_init_X3 tyX3 tyX3_ok nmX3 0 2 rfl rfl (by decide) zm_X3_init_18 rfl rfl (by decide +kernel) rfl rfl (Nat.le_of_ble_eq_true rfl) rfl dX3_init_22 rfl ?_
  exact hret _ 25 _ (3, 12) (by decide) (by decide) dX3_init_25 ⟨q6, q13, q20, rfl⟩
theorem zo_X5_init_1 : Cond.methodLink RX5 1 objectInit ∈ wsX5_init := by decide +kernel
theorem zo_X5_init_2 : Cond.instanceMethod objectInit ∈ wsX5_init := by decide +kernel
theorem zo_X5_init_3 : Cond.code objectInit ⟨#[0xb1]⟩ 1 none ∈ wsX5_init := by decide +kernel
theorem zo_X5_init_I : Cond.arrayClass .int ∈ wsX5_init := by decide +kernel
theorem zm_X5_init_7 : Cond.fieldLink RX5 7 "GridRipUp$Tree" "members" "[I" ∈ wsX5_init := by decide +kernel
theorem zi_X5_init_X5 : ∀ w ∈ wsX50, w ∈ wsX5_init := by decide +kernel
theorem zd_X5_init : yX5_init.cls ≠ "java/lang/invoke/MethodHandle" ∧ yX5_init.cls ≠ "java/lang/invoke/VarHandle" ∧ (parseMethodDescriptor yX5_init.desc).map (fun d => d.parameters.length) = some 1 := by decide +kernel
set_option maxHeartbeats 4000000 in
set_option maxRecDepth 100000 in
theorem zc_X5_init (l : Launch) (D : va_G) (k : Nat → ClassId) (h0 : Nat) {z : Nat} (hz : z ≤ 1024) : zz_MC l yX5_init wsX5_init ({ frames := 1, cells := 1, slots := 1024, locals := 40 } : Room) D k (fun _ => True) [.ref h0, .int (nI z)] [(h0, .inr (5, [.null, .int 0]))] (fun u => ∃ q6 : Nat, u = [(h0, .inr (5, [.ref q6, .int 0])), (q6, .inl (k 0, z, .inl (fun _ => 0)))]) := by
  refine zz_metC (cc := cX5_init) (nL := 2) (by decide) rfl rfl (Nat.le_of_ble_eq_true rfl) ?_
  intro X C I E hret
  have C : zz_ok X cX5_init RX5 wsX5_init k 2 ({ frames := 1, cells := 1, slots := 1024, locals := 40 } : Room) := C
  show zz_ww X (0, 0) [(h0, .inr (5, [.null, .int 0]))] 0 [(0, .ref h0), (1, .int (nI z))] []
  refine zr_aln C 0 dX5_init_0 rfl rfl rfl ?_
  refine zr_objinit C zo_X5_init_1 zo_X5_init_2 zo_X5_init_3 ⟨by decide, Nat.le_of_ble_eq_true rfl⟩ dX5_init_1 rfl ?_
  refine zr_aln C 0 dX5_init_4 rfl rfl rfl ?_
  refine zr_iln C 1 dX5_init_5 rfl rfl rfl ?_
  refine zr_newaI C zo_X5_init_I 1024 (N := z) rfl hz (by decide) ⟨by decide, by decide⟩ dX5_init_6 rfl rfl (fun q6 => ?_)
  show zz_ww X (1, 1024) [(h0, .inr (5, [.null, .int 0])), (q6, .inl (k 0, z, .inl (fun _ => 0)))] 8 [(0, .ref h0), (1, .int (nI z))] [.ref q6, .ref h0]
  refine zr_putF (T := TX5) (N := 2) (ci := 5) (ty := .array .int) (w' := [(h0, .inr (5, [.ref q6, .int 0])), (q6, .inl (k 0, z, .inl (fun _ => 0)))]) C I zi_X5_init_X5 tyX5 tyX5_ok nmX5 0 0 rfl rfl (by decide) zm_X5_init_7 rfl rfl (by decide +kernel) rfl rfl (Nat.le_of_ble_eq_true rfl) rfl dX5_init_8 rfl ?_
  exact hret _ 11 _ (1, 1024) (by decide) (by decide) dX5_init_11 ⟨q6, rfl⟩
theorem zo_X0_init_1 : Cond.methodLink RX0 3 objectInit ∈ wsX0_init := by decide +kernel
theorem zo_X0_init_2 : Cond.instanceMethod objectInit ∈ wsX0_init := by decide +kernel
theorem zo_X0_init_3 : Cond.code objectInit ⟨#[0xb1]⟩ 1 none ∈ wsX0_init := by decide +kernel
theorem zm_X0_init_9 : Cond.fieldLink RX0 9 "GridRipUp$Frontier" "distance" "[J" ∈ wsX0_init := by decide +kernel
theorem zi_X0_init_X0 : ∀ w ∈ wsX00, w ∈ wsX0_init := by decide +kernel
theorem zo_X0_init_I : Cond.arrayClass .int ∈ wsX0_init := by decide +kernel
theorem zm_X0_init_15 : Cond.fieldLink RX0 15 "GridRipUp$Frontier" "heap" "[I" ∈ wsX0_init := by decide +kernel
theorem zm_X0_init_19 : Cond.fieldLink RX0 19 "GridRipUp$Frontier" "seat" "[I" ∈ wsX0_init := by decide +kernel
theorem zd_X0_init : yX0_init.cls ≠ "java/lang/invoke/MethodHandle" ∧ yX0_init.cls ≠ "java/lang/invoke/VarHandle" ∧ (parseMethodDescriptor yX0_init.desc).map (fun d => d.parameters.length) = some 1 := by decide +kernel
set_option maxHeartbeats 4000000 in
set_option maxRecDepth 100000 in
theorem zc_X0_init (l : Launch) (D : va_G) (k : Nat → ClassId) (h0 h1 : Nat) {z : Nat} (hz : z ≤ 1024) : zz_MC l yX0_init wsX0_init ({ frames := 1, cells := 2, slots := 2048, locals := 40 } : Room) D k (fun _ => True) [.ref h0, .ref h1] [(h0, .inr (0, [.null, .null, .null, .int 0])), (h1, .inl (k 1, z, .inr (.inl (fun _ => 0))))] (fun u => ∃ q12 q20 : Nat, u = [(h0, .inr (0, [.ref h1, .ref q12, .ref q20, .int 0])), (h1, .inl (k 1, z, .inr (.inl (fun _ => 0)))), (q12, .inl (k 0, z, .inl (fun _ => 0))), (q20, .inl (k 0, z, .inl (fun _ => 0)))]) := by
  refine zz_metC (cc := cX0_init) (nL := 2) (by decide) rfl rfl (Nat.le_of_ble_eq_true rfl) ?_
  intro X C I E hret
  have C : zz_ok X cX0_init RX0 wsX0_init k 2 ({ frames := 1, cells := 2, slots := 2048, locals := 40 } : Room) := C
  show zz_ww X (0, 0) [(h0, .inr (0, [.null, .null, .null, .int 0])), (h1, .inl (k 1, z, .inr (.inl (fun _ => 0))))] 0 [(0, .ref h0), (1, .ref h1)] []
  refine zr_aln C 0 dX0_init_0 rfl rfl rfl ?_
  refine zr_objinit C zo_X0_init_1 zo_X0_init_2 zo_X0_init_3 ⟨by decide, Nat.le_of_ble_eq_true rfl⟩ dX0_init_1 rfl ?_
  refine zr_aln C 0 dX0_init_4 rfl rfl rfl ?_
  refine zr_aln C 1 dX0_init_5 rfl rfl rfl ?_
  refine zr_putF (T := TX0) (N := 4) (ci := 0) (ty := .array .long) (w' := [(h0, .inr (0, [.ref h1, .null, .null, .int 0])), (h1, .inl (k 1, z, .inr (.inl (fun _ => 0))))]) C I zi_X0_init_X0 tyX0 tyX0_ok nmX0 0 0 rfl rfl (by decide) zm_X0_init_9 rfl rfl (by decide +kernel) rfl rfl (Nat.le_of_ble_eq_true rfl) rfl dX0_init_6 rfl ?_
  refine zr_aln C 0 dX0_init_9 rfl rfl rfl ?_
  refine zr_aln C 1 dX0_init_10 rfl rfl rfl ?_
  refine zr_alen (t0 := 1) C 1 rfl rfl dX0_init_11 rfl ?_
  refine zr_newaI C zo_X0_init_I 1024 (N := z) rfl hz (by decide) ⟨by decide, by decide⟩ dX0_init_12 rfl rfl (fun q12 => ?_)
  show zz_ww X (1, 1024) [(h0, .inr (0, [.ref h1, .null, .null, .int 0])), (h1, .inl (k 1, z, .inr (.inl (fun _ => 0)))), (q12, .inl (k 0, z, .inl (fun _ => 0)))] 14 [(0, .ref h0), (1, .ref h1)] [.ref q12, .ref h0]
  refine zr_putF (T := TX0) (N := 4) (ci := 0) (ty := .array .int) (w' := [(h0, .inr (0, [.ref h1, .ref q12, .null, .int 0])), (h1, .inl (k 1, z, .inr (.inl (fun _ => 0)))), (q12, .inl (k 0, z, .inl (fun _ => 0)))]) C I zi_X0_init_X0 tyX0 tyX0_ok nmX0 0 1 rfl rfl (by decide) zm_X0_init_15 rfl rfl (by decide +kernel) rfl rfl (Nat.le_of_ble_eq_true rfl) rfl dX0_init_14 rfl ?_
  refine zr_aln C 0 dX0_init_17 rfl rfl rfl ?_
  refine zr_aln C 1 dX0_init_18 rfl rfl rfl ?_
  refine zr_alen (t0 := 1) C 1 rfl rfl dX0_init_19 rfl ?_
  refine zr_newaI C zo_X0_init_I 1024 (N := z) rfl hz (by decide) ⟨by decide, by decide⟩ dX0_init_20 rfl rfl (fun q20 => ?_)
  show zz_ww X (2, 2048) [(h0, .inr (0, [.ref h1, .ref q12, .null, .int 0])), (h1, .inl (k 1, z, .inr (.inl (fun _ => 0)))), (q12, .inl (k 0, z, .inl (fun _ => 0))), (q20, .inl (k 0, z, .inl (fun _ => 0)))] 22 [(0, .ref h0), (1, .ref h1)] [.ref q20, .ref h0]
  refine zr_putF (T := TX0) (N := 4) (ci := 0) (ty := .array .int) (w' := [(h0, .inr (0, [.ref h1, .ref q12, .ref q20, .int 0])), (h1, .inl (k 1, z, .inr (.inl (fun _ => 0)))), (q12, .inl (k 0, z, .inl (fun _ => 0))), (q20, .inl (k 0, z, .inl (fun _ => 0)))]) C I zi_X0_init_X0 tyX0 tyX0_ok nmX0 0 2 rfl rfl (by decide) zm_X0_init_19 rfl rfl (by decide +kernel) rfl rfl (Nat.le_of_ble_eq_true rfl) rfl dX0_init_22 rfl ?_
  exact hret _ 25 _ (2, 2048) (by decide) (by decide) dX0_init_25 ⟨q12, q20, rfl⟩
theorem zo_X4_init_1 : Cond.methodLink RX4 3 objectInit ∈ wsX4_init := by decide +kernel
theorem zo_X4_init_2 : Cond.instanceMethod objectInit ∈ wsX4_init := by decide +kernel
theorem zo_X4_init_3 : Cond.code objectInit ⟨#[0xb1]⟩ 1 none ∈ wsX4_init := by decide +kernel
theorem zm_X4_init_9 : Cond.fieldLink RX4 9 "GridRipUp$Search" "grid" "LGridRipUp$Grid;" ∈ wsX4_init := by decide +kernel
theorem zi_X4_init_X4 : ∀ w ∈ wsX40, w ∈ wsX4_init := by decide +kernel
theorem zm_X4_init_15 : Cond.fieldLink RX4 15 "GridRipUp$Search" "prices" "LGridRipUp$Prices;" ∈ wsX4_init := by decide +kernel
theorem zm_X4_init_19 : Cond.fieldLink RX4 19 "GridRipUp$Grid" "cells" "I" ∈ wsX4_init := by decide +kernel
theorem zi_X4_init_X1 : ∀ w ∈ wsX10, w ∈ wsX4_init := by decide +kernel
theorem zo_X4_init_J : Cond.arrayClass .long ∈ wsX4_init := by decide +kernel
theorem zm_X4_init_25 : Cond.fieldLink RX4 25 "GridRipUp$Search" "distance" "[J" ∈ wsX4_init := by decide +kernel
theorem zm_X4_init_29 : Cond.fieldLink RX4 29 "GridRipUp$Search" "toll" "[J" ∈ wsX4_init := by decide +kernel
theorem zo_X4_init_cX0 : Cond.classLink RX4 32 RX0 ∈ wsX4_init := by decide +kernel
theorem zo_X4_init_iX0 : Cond.instantiable RX0 4 ∈ wsX4_init := by decide +kernel
theorem zo_X4_init_jX0 : Cond.initialized RX0 ∈ wsX4_init := by decide +kernel
theorem zi_X4_init_X0 : ∀ w ∈ wsX00, w ∈ wsX4_init := by decide +kernel
theorem zo_X4_init_lX0 : Cond.methodLink RX4 34 yX0_init ∈ wsX4_init := by decide +kernel
theorem zo_X4_init_nX0 : Cond.instanceMethod yX0_init ∈ wsX4_init := by decide +kernel
theorem zm_X4_init_37 : Cond.fieldLink RX4 37 "GridRipUp$Search" "frontier" "LGridRipUp$Frontier;" ∈ wsX4_init := by decide +kernel
theorem zd_X4_init : yX4_init.cls ≠ "java/lang/invoke/MethodHandle" ∧ yX4_init.cls ≠ "java/lang/invoke/VarHandle" ∧ (parseMethodDescriptor yX4_init.desc).map (fun d => d.parameters.length) = some 2 := by decide +kernel
set_option maxHeartbeats 4000000 in
set_option maxRecDepth 100000 in
theorem zc_X4_init (l : Launch) (D : va_G) (k : Nat → ClassId) (h0 h1 h2 g1 g2 g3 g4 g5 : Nat) {z wn hn ln : Nat} (hz : z ≤ 1024) : zz_MC l yX4_init wsX4_init ({ frames := 2, cells := 5, slots := 4100, locals := 61 } : Room) D k (fun _ => True) [.ref h0, .ref h1, .ref h2] [(h0, .inr (4, [.null, .null, .null, .null, .null])), (h1, .inr (1, [.int (nI wn), .int (nI hn), .int (nI ln), .int (nI (wn * hn)), .int (nI z), .ref g1, .ref g2, .ref g3, .ref g4, .ref g5]))] (fun u => ∃ q19 q29 q35 q12 q20 : Nat, u = [(h0, .inr (4, [.ref h1, .ref h2, .ref q19, .ref q29, .ref q35])), (h1, .inr (1, [.int (nI wn), .int (nI hn), .int (nI ln), .int (nI (wn * hn)), .int (nI z), .ref g1, .ref g2, .ref g3, .ref g4, .ref g5])), (q29, .inl (k 1, z, .inr (.inl (fun _ => 0)))), (q35, .inr (0, [.ref q19, .ref q12, .ref q20, .int 0])), (q19, .inl (k 1, z, .inr (.inl (fun _ => 0)))), (q12, .inl (k 0, z, .inl (fun _ => 0))), (q20, .inl (k 0, z, .inl (fun _ => 0)))]) := by
  refine zz_metC (cc := cX4_init) (nL := 3) (by decide) rfl rfl (Nat.le_of_ble_eq_true rfl) ?_
  intro X C I E hret
  have C : zz_ok X cX4_init RX4 wsX4_init k 3 ({ frames := 2, cells := 5, slots := 4100, locals := 61 } : Room) := C
  show zz_ww X (0, 0) [(h0, .inr (4, [.null, .null, .null, .null, .null])), (h1, .inr (1, [.int (nI wn), .int (nI hn), .int (nI ln), .int (nI (wn * hn)), .int (nI z), .ref g1, .ref g2, .ref g3, .ref g4, .ref g5]))] 0 [(0, .ref h0), (1, .ref h1), (2, .ref h2)] []
  refine zr_aln C 0 dX4_init_0 rfl rfl rfl ?_
  refine zr_objinit C zo_X4_init_1 zo_X4_init_2 zo_X4_init_3 ⟨by decide, Nat.le_of_ble_eq_true rfl⟩ dX4_init_1 rfl ?_
  refine zr_aln C 0 dX4_init_4 rfl rfl rfl ?_
  refine zr_aln C 1 dX4_init_5 rfl rfl rfl ?_
  refine zr_putF (T := TX4) (N := 5) (ci := 4) (ty := .object "GridRipUp$Grid") (w' := [(h0, .inr (4, [.ref h1, .null, .null, .null, .null])), (h1, .inr (1, [.int (nI wn), .int (nI hn), .int (nI ln), .int (nI (wn * hn)), .int (nI z), .ref g1, .ref g2, .ref g3, .ref g4, .ref g5]))]) C I zi_X4_init_X4 tyX4 tyX4_ok nmX4 0 0 rfl rfl (by decide) zm_X4_init_9 rfl rfl (by decide +kernel) rfl rfl (Nat.le_of_ble_eq_true rfl) rfl dX4_init_6 rfl ?_
  refine zr_aln C 0 dX4_init_9 rfl rfl rfl ?_
  refine zr_aln C 2 dX4_init_10 rfl rfl rfl ?_
  refine zr_putF (T := TX4) (N := 5) (ci := 4) (ty := .object "GridRipUp$Prices") (w' := [(h0, .inr (4, [.ref h1, .ref h2, .null, .null, .null])), (h1, .inr (1, [.int (nI wn), .int (nI hn), .int (nI ln), .int (nI (wn * hn)), .int (nI z), .ref g1, .ref g2, .ref g3, .ref g4, .ref g5]))]) C I zi_X4_init_X4 tyX4 tyX4_ok nmX4 0 1 rfl rfl (by decide) zm_X4_init_15 rfl rfl (by decide +kernel) rfl rfl (Nat.le_of_ble_eq_true rfl) rfl dX4_init_11 rfl ?_
  refine zr_aln C 0 dX4_init_14 rfl rfl rfl ?_
  refine zr_aln C 1 dX4_init_15 rfl rfl rfl ?_
  refine zr_get (Cn := RX1) (T := TX1) (N := 10) (ci := 1) C zi_X4_init_X1 1 4 rfl rfl (by decide) rfl zm_X4_init_19 dX4_init_16 rfl ?_
  refine zr_newaJ C zo_X4_init_J 1024 (N := z) rfl hz (by decide) ⟨by decide, by decide⟩ dX4_init_19 rfl rfl (fun q19 => ?_)
  show zz_ww X (1, 1024) [(h0, .inr (4, [.ref h1, .ref h2, .null, .null, .null])), (h1, .inr (1, [.int (nI wn), .int (nI hn), .int (nI ln), .int (nI (wn * hn)), .int (nI z), .ref g1, .ref g2, .ref g3, .ref g4, .ref g5])), (q19, .inl (k 1, z, .inr (.inl (fun _ => 0))))] 21 [(0, .ref h0), (1, .ref h1), (2, .ref h2)] [.ref q19, .ref h0]
  refine zr_putF (T := TX4) (N := 5) (ci := 4) (ty := .array .long) (w' := [(h0, .inr (4, [.ref h1, .ref h2, .ref q19, .null, .null])), (h1, .inr (1, [.int (nI wn), .int (nI hn), .int (nI ln), .int (nI (wn * hn)), .int (nI z), .ref g1, .ref g2, .ref g3, .ref g4, .ref g5])), (q19, .inl (k 1, z, .inr (.inl (fun _ => 0))))]) C I zi_X4_init_X4 tyX4 tyX4_ok nmX4 0 2 rfl rfl (by decide) zm_X4_init_25 rfl rfl (by decide +kernel) rfl rfl (Nat.le_of_ble_eq_true rfl) rfl dX4_init_21 rfl ?_
  refine zr_aln C 0 dX4_init_24 rfl rfl rfl ?_
  refine zr_aln C 1 dX4_init_25 rfl rfl rfl ?_
  refine zr_get (Cn := RX1) (T := TX1) (N := 10) (ci := 1) C zi_X4_init_X1 1 4 rfl rfl (by decide) rfl zm_X4_init_19 dX4_init_26 rfl ?_
  refine zr_newaJ C zo_X4_init_J 1024 (N := z) rfl hz (by decide) ⟨by decide, by decide⟩ dX4_init_29 rfl rfl (fun q29 => ?_)
  show zz_ww X (2, 2048) [(h0, .inr (4, [.ref h1, .ref h2, .ref q19, .null, .null])), (h1, .inr (1, [.int (nI wn), .int (nI hn), .int (nI ln), .int (nI (wn * hn)), .int (nI z), .ref g1, .ref g2, .ref g3, .ref g4, .ref g5])), (q19, .inl (k 1, z, .inr (.inl (fun _ => 0)))), (q29, .inl (k 1, z, .inr (.inl (fun _ => 0))))] 31 [(0, .ref h0), (1, .ref h1), (2, .ref h2)] [.ref q29, .ref h0]
  refine zr_putF (T := TX4) (N := 5) (ci := 4) (ty := .array .long) (w' := [(h0, .inr (4, [.ref h1, .ref h2, .ref q19, .ref q29, .null])), (h1, .inr (1, [.int (nI wn), .int (nI hn), .int (nI ln), .int (nI (wn * hn)), .int (nI z), .ref g1, .ref g2, .ref g3, .ref g4, .ref g5])), (q19, .inl (k 1, z, .inr (.inl (fun _ => 0)))), (q29, .inl (k 1, z, .inr (.inl (fun _ => 0))))]) C I zi_X4_init_X4 tyX4 tyX4_ok nmX4 0 3 rfl rfl (by decide) zm_X4_init_29 rfl rfl (by decide +kernel) rfl rfl (Nat.le_of_ble_eq_true rfl) rfl dX4_init_31 rfl ?_
  refine zr_aln C 0 dX4_init_34 rfl rfl rfl ?_
  refine zr_new (Cn := RX0) (T := TX0) (N := 4) (ci := 0) (fs := [.null, .null, .null, .int 0]) C zi_X4_init_X0 tyX0 tyX0_ok zo_X4_init_cX0 zo_X4_init_iX0 zo_X4_init_jX0 rfl (fun j hj => by rcases (show j = 0 ∨ j = 1 ∨ j = 2 ∨ j = 3 by omega) with rfl | rfl | rfl | rfl <;> rfl) ⟨by decide, by decide⟩ dX4_init_35 rfl rfl (fun q35 => ?_)
  show zz_ww X (3, 2052) [(h0, .inr (4, [.ref h1, .ref h2, .ref q19, .ref q29, .null])), (h1, .inr (1, [.int (nI wn), .int (nI hn), .int (nI ln), .int (nI (wn * hn)), .int (nI z), .ref g1, .ref g2, .ref g3, .ref g4, .ref g5])), (q19, .inl (k 1, z, .inr (.inl (fun _ => 0)))), (q29, .inl (k 1, z, .inr (.inl (fun _ => 0)))), (q35, .inr (0, [.null, .null, .null, .int 0]))] 38 [(0, .ref h0), (1, .ref h1), (2, .ref h2)] [.ref q35, .ref h0]
  refine zr_dup C dX4_init_38 rfl rfl ?_
  refine zr_aln C 0 dX4_init_39 rfl rfl rfl ?_
  refine zr_get (Cn := RX4) (T := TX4) (N := 5) (ci := 4) C zi_X4_init_X4 0 2 rfl rfl (by decide) rfl zm_X4_init_25 dX4_init_40 rfl ?_
  refine zr_perm (w' := [(h0, .inr (4, [.ref h1, .ref h2, .ref q19, .ref q29, .null])), (h1, .inr (1, [.int (nI wn), .int (nI hn), .int (nI ln), .int (nI (wn * hn)), .int (nI z), .ref g1, .ref g2, .ref g3, .ref g4, .ref g5])), (q29, .inl (k 1, z, .inr (.inl (fun _ => 0))))] ++ [(q35, .inr (0, [.null, .null, .null, .int 0])), (q19, .inl (k 1, z, .inr (.inl (fun _ => 0))))]) ?_ ?_
  · exact List.Perm.cons _ (List.Perm.cons _ ((List.Perm.swap _ _ _).trans (List.Perm.cons _ (List.Perm.swap _ _ _))))
  refine zr_cI (st := [.ref q35, .ref h0]) C (fun l D => zc_X0_init l D k q35 q19 hz) (fun _ _ _ _ h => h) (fun _ _ => trivial) gX4_init_X0_init rfl zo_X4_init_jX0 zo_X4_init_lX0 zo_X4_init_nX0 rfl zd_X0_init ⟨by decide, by decide⟩ ⟨by decide, by decide⟩ rfl (Nat.le_of_ble_eq_true rfl) rfl dX4_init_43 rfl rfl ?_
  rintro u ⟨q12, q20, rfl⟩
  show zz_ww X (5, 4100) [(h0, .inr (4, [.ref h1, .ref h2, .ref q19, .ref q29, .null])), (h1, .inr (1, [.int (nI wn), .int (nI hn), .int (nI ln), .int (nI (wn * hn)), .int (nI z), .ref g1, .ref g2, .ref g3, .ref g4, .ref g5])), (q29, .inl (k 1, z, .inr (.inl (fun _ => 0)))), (q35, .inr (0, [.ref q19, .ref q12, .ref q20, .int 0])), (q19, .inl (k 1, z, .inr (.inl (fun _ => 0)))), (q12, .inl (k 0, z, .inl (fun _ => 0))), (q20, .inl (k 0, z, .inl (fun _ => 0)))] 46 [(0, .ref h0), (1, .ref h1), (2, .ref h2)] [.ref q35, .ref h0]
  refine zr_putF (T := TX4) (N := 5) (ci := 4) (ty := .object "GridRipUp$Frontier") (w' := [(h0, .inr (4, [.ref h1, .ref h2, .ref q19, .ref q29, .ref q35])), (h1, .inr (1, [.int (nI wn), .int (nI hn), .int (nI ln), .int (nI (wn * hn)), .int (nI z), .ref g1, .ref g2, .ref g3, .ref g4, .ref g5])), (q29, .inl (k 1, z, .inr (.inl (fun _ => 0)))), (q35, .inr (0, [.ref q19, .ref q12, .ref q20, .int 0])), (q19, .inl (k 1, z, .inr (.inl (fun _ => 0)))), (q12, .inl (k 0, z, .inl (fun _ => 0))), (q20, .inl (k 0, z, .inl (fun _ => 0)))]) C I zi_X4_init_X4 tyX4 tyX4_ok nmX4 0 4 rfl rfl (by decide) zm_X4_init_37 rfl rfl (by decide +kernel) rfl rfl (Nat.le_of_ble_eq_true rfl) rfl dX4_init_46 rfl ?_
  exact hret _ 49 _ (5, 4100) (by decide) (by decide) dX4_init_49 ⟨q19, q29, q35, q12, q20, rfl⟩
theorem zo_X1_init_1 : Cond.methodLink RX1 3 objectInit ∈ wsX1_init := by decide +kernel
theorem zo_X1_init_2 : Cond.instanceMethod objectInit ∈ wsX1_init := by decide +kernel
theorem zo_X1_init_3 : Cond.code objectInit ⟨#[0xb1]⟩ 1 none ∈ wsX1_init := by decide +kernel
theorem zo_X1_init_mmin : Cond.methodLink RX1 11 Lib.Math.min.name ∈ wsX1_init := by decide +kernel
theorem zo_X1_init_smin : Cond.static Lib.Math.min.name ∈ wsX1_init := by decide +kernel
theorem zo_X1_init_im : Cond.initialized "java/lang/Math" ∈ wsX1_init := by decide +kernel
theorem zo_X1_init_dmin : Cond.code Lib.Math.min.name Lib.Math.min.code 2 (some .int) ∈ wsX1_init := by decide +kernel
theorem zo_X1_init_mmax : Cond.methodLink RX1 17 Lib.Math.max.name ∈ wsX1_init := by decide +kernel
theorem zo_X1_init_smax : Cond.static Lib.Math.max.name ∈ wsX1_init := by decide +kernel
theorem zo_X1_init_dmax : Cond.code Lib.Math.max.name Lib.Math.max.code 2 (some .int) ∈ wsX1_init := by decide +kernel
theorem zm_X1_init_20 : Cond.fieldLink RX1 20 "GridRipUp$Grid" "width" "I" ∈ wsX1_init := by decide +kernel
theorem zi_X1_init_X1 : ∀ w ∈ wsX10, w ∈ wsX1_init := by decide +kernel
theorem zm_X1_init_24 : Cond.fieldLink RX1 24 "GridRipUp$Grid" "height" "I" ∈ wsX1_init := by decide +kernel
theorem zm_X1_init_27 : Cond.fieldLink RX1 27 "GridRipUp$Grid" "layers" "I" ∈ wsX1_init := by decide +kernel
theorem zm_X1_init_30 : Cond.fieldLink RX1 30 "GridRipUp$Grid" "area" "I" ∈ wsX1_init := by decide +kernel
theorem zm_X1_init_33 : Cond.fieldLink RX1 33 "GridRipUp$Grid" "cells" "I" ∈ wsX1_init := by decide +kernel
theorem zo_X1_init_Z : Cond.arrayClass .boolean ∈ wsX1_init := by decide +kernel
theorem zm_X1_init_36 : Cond.fieldLink RX1 36 "GridRipUp$Grid" "barred" "[Z" ∈ wsX1_init := by decide +kernel
theorem zm_X1_init_40 : Cond.fieldLink RX1 40 "GridRipUp$Grid" "pinned" "[Z" ∈ wsX1_init := by decide +kernel
theorem zo_X1_init_I : Cond.arrayClass .int ∈ wsX1_init := by decide +kernel
theorem zm_X1_init_43 : Cond.fieldLink RX1 43 "GridRipUp$Grid" "holder" "[I" ∈ wsX1_init := by decide +kernel
theorem zm_X1_init_47 : Cond.fieldLink RX1 47 "GridRipUp$Grid" "turn" "[I" ∈ wsX1_init := by decide +kernel
theorem zo_X1_init_J : Cond.arrayClass .long ∈ wsX1_init := by decide +kernel
theorem zm_X1_init_50 : Cond.fieldLink RX1 50 "GridRipUp$Grid" "scars" "[J" ∈ wsX1_init := by decide +kernel
theorem zd_X1_init : yX1_init.cls ≠ "java/lang/invoke/MethodHandle" ∧ yX1_init.cls ≠ "java/lang/invoke/VarHandle" ∧ (parseMethodDescriptor yX1_init.desc).map (fun d => d.parameters.length) = some 3 := by decide +kernel
set_option maxHeartbeats 4000000 in
set_option maxRecDepth 100000 in
theorem zc_X1_init (l : Launch) (D : va_G) (k : Nat → ClassId) (h0 : Nat) {p1 p2 p3 : Int32} {z wn hn ln : Nat} (e1 : (if (1 : Int32) < (if (16 : Int32) < p1 then (16 : Int32) else p1) then (if (16 : Int32) < p1 then (16 : Int32) else p1) else (1 : Int32)) = nI wn) (e2 : (if (1 : Int32) < (if (16 : Int32) < p2 then (16 : Int32) else p2) then (if (16 : Int32) < p2 then (16 : Int32) else p2) else (1 : Int32)) = nI hn) (e3 : (if (1 : Int32) < (if (4 : Int32) < p3 then (4 : Int32) else p3) then (if (4 : Int32) < p3 then (4 : Int32) else p3) else (1 : Int32)) = nI ln) (ez : wn * hn * ln = z) (e4 : nI (wn * hn * ln) = nI z) (hz : z ≤ 1024) : zz_MC l yX1_init wsX1_init ({ frames := 1, cells := 5, slots := 5120, locals := 40 } : Room) D k (fun _ => True) [.ref h0, .int p1, .int p2, .int p3] [(h0, .inr (1, [.int 0, .int 0, .int 0, .int 0, .int 0, .null, .null, .null, .null, .null]))] (fun u => ∃ q76 q86 q96 q106 q116 : Nat, u = [(h0, .inr (1, [.int (nI wn), .int (nI hn), .int (nI ln), .int (nI (wn * hn)), .int (nI z), .ref q76, .ref q86, .ref q96, .ref q106, .ref q116])), (q76, .inl (k 2, z, .inl (fun _ => 0))), (q86, .inl (k 2, z, .inl (fun _ => 0))), (q96, .inl (k 0, z, .inl (fun j => if j < z then (-1 : Int32) else 0))), (q106, .inl (k 0, z, .inl (fun _ => 0))), (q116, .inl (k 1, z, .inr (.inl (fun _ => 0))))]) := by
  refine zz_metC (cc := cX1_init) (nL := 4) (by decide) rfl rfl (Nat.le_of_ble_eq_true rfl) ?_
  intro X C I E hret
  have C : zz_ok X cX1_init RX1 wsX1_init k 4 ({ frames := 1, cells := 5, slots := 5120, locals := 40 } : Room) := C
  show zz_ww X (0, 0) [(h0, .inr (1, [.int 0, .int 0, .int 0, .int 0, .int 0, .null, .null, .null, .null, .null]))] 0 [(0, .ref h0), (1, .int p1), (2, .int p2), (3, .int p3)] []
  refine zr_aln C 0 dX1_init_0 rfl rfl rfl ?_
  refine zr_objinit C zo_X1_init_1 zo_X1_init_2 zo_X1_init_3 ⟨by decide, Nat.le_of_ble_eq_true rfl⟩ dX1_init_1 rfl ?_
  refine zr_aln C 0 dX1_init_4 rfl rfl rfl ?_
  refine zr_ic (v := (1 : Int32)) C dX1_init_5 (by decide) rfl ?_
  refine zr_iln C 1 dX1_init_6 rfl rfl rfl ?_
  refine zr_bi (v := (16 : Int32)) C dX1_init_7 (by decide) rfl ?_
  refine zr_mmin C zo_X1_init_mmin zo_X1_init_smin zo_X1_init_im zo_X1_init_dmin ⟨by decide, Nat.le_of_ble_eq_true rfl⟩ ⟨by decide, by decide⟩ dX1_init_9 rfl ?_
  refine zr_mmax C zo_X1_init_mmax zo_X1_init_smax zo_X1_init_im zo_X1_init_dmax ⟨by decide, Nat.le_of_ble_eq_true rfl⟩ ⟨by decide, by decide⟩ dX1_init_12 rfl ?_
  rw [e1]
  refine zr_putF (T := TX1) (N := 10) (ci := 1) (ty := .int) (w' := [(h0, .inr (1, [.int (nI wn), .int 0, .int 0, .int 0, .int 0, .null, .null, .null, .null, .null]))]) C I zi_X1_init_X1 tyX1 tyX1_ok nmX1 0 0 rfl rfl (by decide) zm_X1_init_20 rfl rfl (by decide +kernel) rfl rfl (Nat.le_of_ble_eq_true rfl) rfl dX1_init_15 rfl ?_
  refine zr_aln C 0 dX1_init_18 rfl rfl rfl ?_
  refine zr_ic (v := (1 : Int32)) C dX1_init_19 (by decide) rfl ?_
  refine zr_iln C 2 dX1_init_20 rfl rfl rfl ?_
  refine zr_bi (v := (16 : Int32)) C dX1_init_21 (by decide) rfl ?_
  refine zr_mmin C zo_X1_init_mmin zo_X1_init_smin zo_X1_init_im zo_X1_init_dmin ⟨by decide, Nat.le_of_ble_eq_true rfl⟩ ⟨by decide, by decide⟩ dX1_init_23 rfl ?_
  refine zr_mmax C zo_X1_init_mmax zo_X1_init_smax zo_X1_init_im zo_X1_init_dmax ⟨by decide, Nat.le_of_ble_eq_true rfl⟩ ⟨by decide, by decide⟩ dX1_init_26 rfl ?_
  rw [e2]
  refine zr_putF (T := TX1) (N := 10) (ci := 1) (ty := .int) (w' := [(h0, .inr (1, [.int (nI wn), .int (nI hn), .int 0, .int 0, .int 0, .null, .null, .null, .null, .null]))]) C I zi_X1_init_X1 tyX1 tyX1_ok nmX1 0 1 rfl rfl (by decide) zm_X1_init_24 rfl rfl (by decide +kernel) rfl rfl (Nat.le_of_ble_eq_true rfl) rfl dX1_init_29 rfl ?_
  refine zr_aln C 0 dX1_init_32 rfl rfl rfl ?_
  refine zr_ic (v := (1 : Int32)) C dX1_init_33 (by decide) rfl ?_
  refine zr_iln C 3 dX1_init_34 rfl rfl rfl ?_
  refine zr_ic (v := (4 : Int32)) C dX1_init_35 (by decide) rfl ?_
  refine zr_mmin C zo_X1_init_mmin zo_X1_init_smin zo_X1_init_im zo_X1_init_dmin ⟨by decide, Nat.le_of_ble_eq_true rfl⟩ ⟨by decide, by decide⟩ dX1_init_36 rfl ?_
  refine zr_mmax C zo_X1_init_mmax zo_X1_init_smax zo_X1_init_im zo_X1_init_dmax ⟨by decide, Nat.le_of_ble_eq_true rfl⟩ ⟨by decide, by decide⟩ dX1_init_39 rfl ?_
  rw [e3]
  refine zr_putF (T := TX1) (N := 10) (ci := 1) (ty := .int) (w' := [(h0, .inr (1, [.int (nI wn), .int (nI hn), .int (nI ln), .int 0, .int 0, .null, .null, .null, .null, .null]))]) C I zi_X1_init_X1 tyX1 tyX1_ok nmX1 0 2 rfl rfl (by decide) zm_X1_init_27 rfl rfl (by decide +kernel) rfl rfl (Nat.le_of_ble_eq_true rfl) rfl dX1_init_42 rfl ?_
  refine zr_aln C 0 dX1_init_45 rfl rfl rfl ?_
  refine zr_aln C 0 dX1_init_46 rfl rfl rfl ?_
  refine zr_get (Cn := RX1) (T := TX1) (N := 10) (ci := 1) C zi_X1_init_X1 0 0 rfl rfl (by decide) rfl zm_X1_init_20 dX1_init_47 rfl ?_
  refine zr_aln C 0 dX1_init_50 rfl rfl rfl ?_
  refine zr_get (Cn := RX1) (T := TX1) (N := 10) (ci := 1) C zi_X1_init_X1 0 1 rfl rfl (by decide) rfl zm_X1_init_24 dX1_init_51 rfl ?_
  refine zr_imul C dX1_init_54 rfl ?_
  rw [pk_mul]
  refine zr_putF (T := TX1) (N := 10) (ci := 1) (ty := .int) (w' := [(h0, .inr (1, [.int (nI wn), .int (nI hn), .int (nI ln), .int (nI (wn * hn)), .int 0, .null, .null, .null, .null, .null]))]) C I zi_X1_init_X1 tyX1 tyX1_ok nmX1 0 3 rfl rfl (by decide) zm_X1_init_30 rfl rfl (by decide +kernel) rfl rfl (Nat.le_of_ble_eq_true rfl) rfl dX1_init_55 rfl ?_
  refine zr_aln C 0 dX1_init_58 rfl rfl rfl ?_
  refine zr_aln C 0 dX1_init_59 rfl rfl rfl ?_
  refine zr_get (Cn := RX1) (T := TX1) (N := 10) (ci := 1) C zi_X1_init_X1 0 3 rfl rfl (by decide) rfl zm_X1_init_30 dX1_init_60 rfl ?_
  refine zr_aln C 0 dX1_init_63 rfl rfl rfl ?_
  refine zr_get (Cn := RX1) (T := TX1) (N := 10) (ci := 1) C zi_X1_init_X1 0 2 rfl rfl (by decide) rfl zm_X1_init_27 dX1_init_64 rfl ?_
  refine zr_imul C dX1_init_67 rfl ?_
  rw [pk_mul]
  rw [e4]
  refine zr_putF (T := TX1) (N := 10) (ci := 1) (ty := .int) (w' := [(h0, .inr (1, [.int (nI wn), .int (nI hn), .int (nI ln), .int (nI (wn * hn)), .int (nI z), .null, .null, .null, .null, .null]))]) C I zi_X1_init_X1 tyX1 tyX1_ok nmX1 0 4 rfl rfl (by decide) zm_X1_init_33 rfl rfl (by decide +kernel) rfl rfl (Nat.le_of_ble_eq_true rfl) rfl dX1_init_68 rfl ?_
  refine zr_aln C 0 dX1_init_71 rfl rfl rfl ?_
  refine zr_aln C 0 dX1_init_72 rfl rfl rfl ?_
  refine zr_get (Cn := RX1) (T := TX1) (N := 10) (ci := 1) C zi_X1_init_X1 0 4 rfl rfl (by decide) rfl zm_X1_init_33 dX1_init_73 rfl ?_
  refine zr_newaZ C zo_X1_init_Z 1024 (N := z) rfl hz (by decide) ⟨by decide, by decide⟩ dX1_init_76 rfl rfl (fun q76 => ?_)
  show zz_ww X (1, 1024) [(h0, .inr (1, [.int (nI wn), .int (nI hn), .int (nI ln), .int (nI (wn * hn)), .int (nI z), .null, .null, .null, .null, .null])), (q76, .inl (k 2, z, .inl (fun _ => 0)))] 78 [(0, .ref h0), (1, .int p1), (2, .int p2), (3, .int p3)] [.ref q76, .ref h0]
  refine zr_putF (T := TX1) (N := 10) (ci := 1) (ty := .array .boolean) (w' := [(h0, .inr (1, [.int (nI wn), .int (nI hn), .int (nI ln), .int (nI (wn * hn)), .int (nI z), .ref q76, .null, .null, .null, .null])), (q76, .inl (k 2, z, .inl (fun _ => 0)))]) C I zi_X1_init_X1 tyX1 tyX1_ok nmX1 0 5 rfl rfl (by decide) zm_X1_init_36 rfl rfl (by decide +kernel) rfl rfl (Nat.le_of_ble_eq_true rfl) rfl dX1_init_78 rfl ?_
  refine zr_aln C 0 dX1_init_81 rfl rfl rfl ?_
  refine zr_aln C 0 dX1_init_82 rfl rfl rfl ?_
  refine zr_get (Cn := RX1) (T := TX1) (N := 10) (ci := 1) C zi_X1_init_X1 0 4 rfl rfl (by decide) rfl zm_X1_init_33 dX1_init_83 rfl ?_
  refine zr_newaZ C zo_X1_init_Z 1024 (N := z) rfl hz (by decide) ⟨by decide, by decide⟩ dX1_init_86 rfl rfl (fun q86 => ?_)
  show zz_ww X (2, 2048) [(h0, .inr (1, [.int (nI wn), .int (nI hn), .int (nI ln), .int (nI (wn * hn)), .int (nI z), .ref q76, .null, .null, .null, .null])), (q76, .inl (k 2, z, .inl (fun _ => 0))), (q86, .inl (k 2, z, .inl (fun _ => 0)))] 88 [(0, .ref h0), (1, .int p1), (2, .int p2), (3, .int p3)] [.ref q86, .ref h0]
  refine zr_putF (T := TX1) (N := 10) (ci := 1) (ty := .array .boolean) (w' := [(h0, .inr (1, [.int (nI wn), .int (nI hn), .int (nI ln), .int (nI (wn * hn)), .int (nI z), .ref q76, .ref q86, .null, .null, .null])), (q76, .inl (k 2, z, .inl (fun _ => 0))), (q86, .inl (k 2, z, .inl (fun _ => 0)))]) C I zi_X1_init_X1 tyX1 tyX1_ok nmX1 0 6 rfl rfl (by decide) zm_X1_init_40 rfl rfl (by decide +kernel) rfl rfl (Nat.le_of_ble_eq_true rfl) rfl dX1_init_88 rfl ?_
  refine zr_aln C 0 dX1_init_91 rfl rfl rfl ?_
  refine zr_aln C 0 dX1_init_92 rfl rfl rfl ?_
  refine zr_get (Cn := RX1) (T := TX1) (N := 10) (ci := 1) C zi_X1_init_X1 0 4 rfl rfl (by decide) rfl zm_X1_init_33 dX1_init_93 rfl ?_
  refine zr_newaI C zo_X1_init_I 1024 (N := z) rfl hz (by decide) ⟨by decide, by decide⟩ dX1_init_96 rfl rfl (fun q96 => ?_)
  show zz_ww X (3, 3072) [(h0, .inr (1, [.int (nI wn), .int (nI hn), .int (nI ln), .int (nI (wn * hn)), .int (nI z), .ref q76, .ref q86, .null, .null, .null])), (q76, .inl (k 2, z, .inl (fun _ => 0))), (q86, .inl (k 2, z, .inl (fun _ => 0))), (q96, .inl (k 0, z, .inl (fun _ => 0)))] 98 [(0, .ref h0), (1, .int p1), (2, .int p2), (3, .int p3)] [.ref q96, .ref h0]
  refine zr_putF (T := TX1) (N := 10) (ci := 1) (ty := .array .int) (w' := [(h0, .inr (1, [.int (nI wn), .int (nI hn), .int (nI ln), .int (nI (wn * hn)), .int (nI z), .ref q76, .ref q86, .ref q96, .null, .null])), (q76, .inl (k 2, z, .inl (fun _ => 0))), (q86, .inl (k 2, z, .inl (fun _ => 0))), (q96, .inl (k 0, z, .inl (fun _ => 0)))]) C I zi_X1_init_X1 tyX1 tyX1_ok nmX1 0 7 rfl rfl (by decide) zm_X1_init_43 rfl rfl (by decide +kernel) rfl rfl (Nat.le_of_ble_eq_true rfl) rfl dX1_init_98 rfl ?_
  refine zr_aln C 0 dX1_init_101 rfl rfl rfl ?_
  refine zr_aln C 0 dX1_init_102 rfl rfl rfl ?_
  refine zr_get (Cn := RX1) (T := TX1) (N := 10) (ci := 1) C zi_X1_init_X1 0 4 rfl rfl (by decide) rfl zm_X1_init_33 dX1_init_103 rfl ?_
  refine zr_newaI C zo_X1_init_I 1024 (N := z) rfl hz (by decide) ⟨by decide, by decide⟩ dX1_init_106 rfl rfl (fun q106 => ?_)
  show zz_ww X (4, 4096) [(h0, .inr (1, [.int (nI wn), .int (nI hn), .int (nI ln), .int (nI (wn * hn)), .int (nI z), .ref q76, .ref q86, .ref q96, .null, .null])), (q76, .inl (k 2, z, .inl (fun _ => 0))), (q86, .inl (k 2, z, .inl (fun _ => 0))), (q96, .inl (k 0, z, .inl (fun _ => 0))), (q106, .inl (k 0, z, .inl (fun _ => 0)))] 108 [(0, .ref h0), (1, .int p1), (2, .int p2), (3, .int p3)] [.ref q106, .ref h0]
  refine zr_putF (T := TX1) (N := 10) (ci := 1) (ty := .array .int) (w' := [(h0, .inr (1, [.int (nI wn), .int (nI hn), .int (nI ln), .int (nI (wn * hn)), .int (nI z), .ref q76, .ref q86, .ref q96, .ref q106, .null])), (q76, .inl (k 2, z, .inl (fun _ => 0))), (q86, .inl (k 2, z, .inl (fun _ => 0))), (q96, .inl (k 0, z, .inl (fun _ => 0))), (q106, .inl (k 0, z, .inl (fun _ => 0)))]) C I zi_X1_init_X1 tyX1 tyX1_ok nmX1 0 8 rfl rfl (by decide) zm_X1_init_47 rfl rfl (by decide +kernel) rfl rfl (Nat.le_of_ble_eq_true rfl) rfl dX1_init_108 rfl ?_
  refine zr_aln C 0 dX1_init_111 rfl rfl rfl ?_
  refine zr_aln C 0 dX1_init_112 rfl rfl rfl ?_
  refine zr_get (Cn := RX1) (T := TX1) (N := 10) (ci := 1) C zi_X1_init_X1 0 4 rfl rfl (by decide) rfl zm_X1_init_33 dX1_init_113 rfl ?_
  refine zr_newaJ C zo_X1_init_J 1024 (N := z) rfl hz (by decide) ⟨by decide, by decide⟩ dX1_init_116 rfl rfl (fun q116 => ?_)
  show zz_ww X (5, 5120) [(h0, .inr (1, [.int (nI wn), .int (nI hn), .int (nI ln), .int (nI (wn * hn)), .int (nI z), .ref q76, .ref q86, .ref q96, .ref q106, .null])), (q76, .inl (k 2, z, .inl (fun _ => 0))), (q86, .inl (k 2, z, .inl (fun _ => 0))), (q96, .inl (k 0, z, .inl (fun _ => 0))), (q106, .inl (k 0, z, .inl (fun _ => 0))), (q116, .inl (k 1, z, .inr (.inl (fun _ => 0))))] 118 [(0, .ref h0), (1, .int p1), (2, .int p2), (3, .int p3)] [.ref q116, .ref h0]
  refine zr_putF (T := TX1) (N := 10) (ci := 1) (ty := .array .long) (w' := [(h0, .inr (1, [.int (nI wn), .int (nI hn), .int (nI ln), .int (nI (wn * hn)), .int (nI z), .ref q76, .ref q86, .ref q96, .ref q106, .ref q116])), (q76, .inl (k 2, z, .inl (fun _ => 0))), (q86, .inl (k 2, z, .inl (fun _ => 0))), (q96, .inl (k 0, z, .inl (fun _ => 0))), (q106, .inl (k 0, z, .inl (fun _ => 0))), (q116, .inl (k 1, z, .inr (.inl (fun _ => 0))))]) C I zi_X1_init_X1 tyX1 tyX1_ok nmX1 0 9 rfl rfl (by decide) zm_X1_init_50 rfl rfl (by decide +kernel) rfl rfl (Nat.le_of_ble_eq_true rfl) rfl dX1_init_118 rfl ?_
  refine zr_aln C 0 dX1_init_121 rfl rfl rfl ?_
  refine zr_get (Cn := RX1) (T := TX1) (N := 10) (ci := 1) C zi_X1_init_X1 0 7 rfl rfl (by decide) rfl zm_X1_init_43 dX1_init_122 rfl ?_
  refine zr_ic (v := (-1 : Int32)) C dX1_init_125 (by decide) rfl ?_
  refine zr_fillWI (w' := [(h0, .inr (1, [.int (nI wn), .int (nI hn), .int (nI ln), .int (nI (wn * hn)), .int (nI z), .ref q76, .ref q86, .ref q96, .ref q106, .ref q116])), (q76, .inl (k 2, z, .inl (fun _ => 0))), (q86, .inl (k 2, z, .inl (fun _ => 0))), (q96, .inl (k 0, z, .inl (fun j => if j < z then (-1 : Int32) else 0))), (q106, .inl (k 0, z, .inl (fun _ => 0))), (q116, .inl (k 1, z, .inr (.inl (fun _ => 0))))]) C gX1_init_J7_fill_53178 ⟨by decide, by decide⟩ ⟨by decide, by decide⟩ (Nat.le_of_ble_eq_true rfl) 3 rfl (by omega) rfl dX1_init_126 rfl ?_
  exact hret _ 129 _ (5, 5120) (by decide) (by decide) dX1_init_129 ⟨q76, q86, q96, q106, q116, rfl⟩

def zz_h1 (c : Nat) : Option Int32 := if c = 1 then some 1 else none
def zz_h2 (c : Nat) : Option Int32 := if c = 1 then some 1 else if c = 2 then some 2 else none
def zz_h3 (c : Nat) : Option Int32 := if c = 2 then some 1 else none
def zz_cvZ (v : Int32) : Int64 := if v = 0 then 0 else 1
theorem zm_L_bar_13 : Cond.classLink RL 13 "java/lang/IndexOutOfBoundsException" ∈ wsL_bar := by decide +kernel
theorem zd_L_bar : yL_bar.cls ≠ "java/lang/invoke/MethodHandle" ∧ yL_bar.cls ≠ "java/lang/invoke/VarHandle" ∧ (parseMethodDescriptor yL_bar.desc).map (fun d => d.parameters.length) = some 5 := by decide +kernel
set_option maxHeartbeats 4000000 in
theorem zc_L_bar (N : Nat) (l : Launch) (D : va_G) (k : Nat → ClassId) {a : Nat → Nat} {ob z : Nat} (S : zz_St) (f : Nat → Int64) (p1 : Int32) (p2 : Int32) (p3 : Int32) (v : Int32) (u : zz_St × (Nat → Int64)) (hst : l.stackTraces = false) (h : zz_LH zz_cvZ zz_h1 (zf_X6_bar N z S p1 p2 p3) f = some (v, u)) : zz_MH l yL_bar wsL_bar ({ frames := 8, cells := 1, slots := 6, locals := 137 } : Room) D k (zz_wH a ob k z) [.ref (a 0), .int p1, .int p2, .int p3, .ref ob] (S, f) (v, u) := by
  refine zz_metH (cc := cL_bar) (nL := 6) (hh := [(0, 19, 22, 13)]) hst (by decide) rfl (Nat.le_of_ble_eq_true rfl) ?_
  intro X C T hret
  have C : zz_ok X cL_bar RL wsL_bar k 6 ({ frames := 8, cells := 1, slots := 6, locals := 137 } : Room) := C
  show zz_ww X (0, 0) ([(ob, .inl (k 1, 1, .inr (.inl f)))] ++ zz_wC a k z S) 0 [(0, .ref (a 0)), (1, .int p1), (2, .int p2), (3, .int p3), (4, .ref ob)] []
  refine zr_al C 4 dL_bar_0 rfl rfl ?_
  refine zr_ic (v := (0 : Int32)) C dL_bar_2 (by decide) rfl ?_
  refine zr_aln C 0 dL_bar_3 rfl rfl rfl ?_
  refine zr_iln C 1 dL_bar_4 rfl rfl rfl ?_
  refine zr_iln C 2 dL_bar_5 rfl rfl rfl ?_
  refine zr_iln C 3 dL_bar_6 rfl rfl rfl ?_
  refine zr_cXf (wr := [(ob, .inl (k 1, 1, .inr (.inl f)))]) (wf := zz_wC a k z) (S := S) (st := [.int (0 : Int32), .ref ob]) C T (fun l D r hl hr => zc_X6_bar N l D k (a := a) (z := z) S p1 p2 p3 r hl hr) gL_bar_X6_bar rfl zd_X6_bar ⟨by decide, by decide⟩ ⟨by decide, by decide⟩ rfl ⟨0, 6, _, _, _, zk_C0, rfl⟩ (Nat.le_of_ble_eq_true rfl) rfl dL_bar_7 rfl rfl ?_ ?_ ?_
  · intro hn
    rw [hn] at h
    cases h
  · intro c9 u9 hF
    rw [hF] at h
    by_cases hc : c9 = 1
    · subst hc
      refine ⟨22, zz_caught1 C T (by decide) (by decide) 1 zm_L_bar_13 (by decide), fun q => ?_⟩
      refine zr_as C [1, 2, 3, 4, 5, 0] dL_bar_22 rfl (by decide) rfl ?_
      refine zr_ic (v := (1 : Int32)) C dL_bar_24 (by decide) rfl ?_
      exact hret (1 : Int32) (u9, f) 25 _ (1, 6) (by decide) (by decide) dL_bar_25 (show some ((1 : Int32), (u9, f)) = some (v, u) from h)
    · simp [zz_LH, zz_h1, hc] at h
  · intro v9 u9 _ hF
    rw [hF] at h
    have h2 : some ((0 : Int32), (u9, vp_updL f (0 : Int32).toNatClampNeg (zz_cvZ v9))) = some (v, u) := h
    by_cases hv : v9 = 0
    · refine zr_if_eq (tgt := 17) (K1 := some ()) (K2 := none) (r := ()) C dL_bar_10 (by decide) rfl (if_pos hv) (fun _ => ?_) (fun h => nomatch h)
      refine zr_lc (v := 0) C dL_bar_17 (by decide) rfl ?_
      rw [zz_cvZ, if_pos hv] at h2
      refine zr_last (K := some ()) (r := ()) (w' := [(ob, .inl (k 1, 1, .inr (.inl (vp_updL f (0 : Int32).toNatClampNeg (0 : Int64)))))] ++ zz_wC a k z u9) C 0 rfl dL_bar_18 rfl rfl rfl (fun _ => ?_)
      refine zr_goto (tgt := 26) C dL_bar_19 (by decide) ?_
      refine zr_ic (v := (0 : Int32)) C dL_bar_26 (by decide) rfl ?_
      exact hret (0 : Int32) (u9, vp_updL f (0 : Int32).toNatClampNeg (0 : Int64)) 27 _ (1, 6) (by decide) (by decide) dL_bar_27 h2
    · refine zr_if_eq (tgt := 17) (K1 := none) (K2 := some ()) (r := ()) C dL_bar_10 (by decide) rfl (if_neg hv) (fun h => nomatch h) (fun _ => ?_)
      refine zr_lc (v := 1) C dL_bar_13 (by decide) rfl ?_
      refine zr_goto (tgt := 18) C dL_bar_14 (by decide) ?_
      rw [zz_cvZ, if_neg hv] at h2
      refine zr_last (K := some ()) (r := ()) (w' := [(ob, .inl (k 1, 1, .inr (.inl (vp_updL f (0 : Int32).toNatClampNeg (1 : Int64)))))] ++ zz_wC a k z u9) C 0 rfl dL_bar_18 rfl rfl rfl (fun _ => ?_)
      refine zr_goto (tgt := 26) C dL_bar_19 (by decide) ?_
      refine zr_ic (v := (0 : Int32)) C dL_bar_26 (by decide) rfl ?_
      exact hret (0 : Int32) (u9, vp_updL f (0 : Int32).toNatClampNeg (1 : Int64)) 27 _ (1, 6) (by decide) (by decide) dL_bar_27 h2
theorem zm_L_pin_13 : Cond.classLink RL 13 "java/lang/IndexOutOfBoundsException" ∈ wsL_pin := by decide +kernel
theorem zd_L_pin : yL_pin.cls ≠ "java/lang/invoke/MethodHandle" ∧ yL_pin.cls ≠ "java/lang/invoke/VarHandle" ∧ (parseMethodDescriptor yL_pin.desc).map (fun d => d.parameters.length) = some 6 := by decide +kernel
set_option maxHeartbeats 4000000 in
theorem zc_L_pin (N : Nat) (l : Launch) (D : va_G) (k : Nat → ClassId) {a : Nat → Nat} {ob z : Nat} (S : zz_St) (f : Nat → Int64) (p1 : Int32) (p2 : Int32) (p3 : Int32) (p4 : Int32) (v : Int32) (u : zz_St × (Nat → Int64)) (hst : l.stackTraces = false) (h : zz_LH zz_cvZ zz_h1 (zf_X6_pin N z S p1 p2 p3 p4) f = some (v, u)) : zz_MH l yL_pin wsL_pin ({ frames := 8, cells := 2, slots := 12, locals := 139 } : Room) D k (zz_wH a ob k z) [.ref (a 0), .int p1, .int p2, .int p3, .int p4, .ref ob] (S, f) (v, u) := by
  refine zz_metH (cc := cL_pin) (nL := 7) (hh := [(0, 21, 24, 13)]) hst (by decide) rfl (Nat.le_of_ble_eq_true rfl) ?_
  intro X C T hret
  have C : zz_ok X cL_pin RL wsL_pin k 7 ({ frames := 8, cells := 2, slots := 12, locals := 139 } : Room) := C
  show zz_ww X (0, 0) ([(ob, .inl (k 1, 1, .inr (.inl f)))] ++ zz_wC a k z S) 0 [(0, .ref (a 0)), (1, .int p1), (2, .int p2), (3, .int p3), (4, .int p4), (5, .ref ob)] []
  refine zr_al C 5 dL_pin_0 rfl rfl ?_
  refine zr_ic (v := (0 : Int32)) C dL_pin_2 (by decide) rfl ?_
  refine zr_aln C 0 dL_pin_3 rfl rfl rfl ?_
  refine zr_iln C 1 dL_pin_4 rfl rfl rfl ?_
  refine zr_iln C 2 dL_pin_5 rfl rfl rfl ?_
  refine zr_iln C 3 dL_pin_6 rfl rfl rfl ?_
  refine zr_il C 4 dL_pin_7 rfl rfl ?_
  refine zr_cXf (wr := [(ob, .inl (k 1, 1, .inr (.inl f)))]) (wf := zz_wC a k z) (S := S) (st := [.int (0 : Int32), .ref ob]) C T (fun l D r hl hr => zc_X6_pin N l D k (a := a) (z := z) S p1 p2 p3 p4 r hl hr) gL_pin_X6_pin rfl zd_X6_pin ⟨by decide, by decide⟩ ⟨by decide, by decide⟩ rfl ⟨0, 6, _, _, _, zk_C0, rfl⟩ (Nat.le_of_ble_eq_true rfl) rfl dL_pin_9 rfl rfl ?_ ?_ ?_
  · intro hn
    rw [hn] at h
    cases h
  · intro c9 u9 hF
    rw [hF] at h
    by_cases hc : c9 = 1
    · subst hc
      refine ⟨24, zz_caught1 C T (by decide) (by decide) 1 zm_L_pin_13 (by decide), fun q => ?_⟩
      refine zr_as C [1, 2, 3, 4, 5, 6, 0] dL_pin_24 rfl (by decide) rfl ?_
      refine zr_ic (v := (1 : Int32)) C dL_pin_26 (by decide) rfl ?_
      exact hret (1 : Int32) (u9, f) 27 _ (2, 12) (by decide) (by decide) dL_pin_27 (show some ((1 : Int32), (u9, f)) = some (v, u) from h)
    · simp [zz_LH, zz_h1, hc] at h
  · intro v9 u9 _ hF
    rw [hF] at h
    have h2 : some ((0 : Int32), (u9, vp_updL f (0 : Int32).toNatClampNeg (zz_cvZ v9))) = some (v, u) := h
    by_cases hv : v9 = 0
    · refine zr_if_eq (tgt := 19) (K1 := some ()) (K2 := none) (r := ()) C dL_pin_12 (by decide) rfl (if_pos hv) (fun _ => ?_) (fun h => nomatch h)
      refine zr_lc (v := 0) C dL_pin_19 (by decide) rfl ?_
      rw [zz_cvZ, if_pos hv] at h2
      refine zr_last (K := some ()) (r := ()) (w' := [(ob, .inl (k 1, 1, .inr (.inl (vp_updL f (0 : Int32).toNatClampNeg (0 : Int64)))))] ++ zz_wC a k z u9) C 0 rfl dL_pin_20 rfl rfl rfl (fun _ => ?_)
      refine zr_goto (tgt := 28) C dL_pin_21 (by decide) ?_
      refine zr_ic (v := (0 : Int32)) C dL_pin_28 (by decide) rfl ?_
      exact hret (0 : Int32) (u9, vp_updL f (0 : Int32).toNatClampNeg (0 : Int64)) 29 _ (2, 12) (by decide) (by decide) dL_pin_29 h2
    · refine zr_if_eq (tgt := 19) (K1 := none) (K2 := some ()) (r := ()) C dL_pin_12 (by decide) rfl (if_neg hv) (fun h => nomatch h) (fun _ => ?_)
      refine zr_lc (v := 1) C dL_pin_15 (by decide) rfl ?_
      refine zr_goto (tgt := 20) C dL_pin_16 (by decide) ?_
      rw [zz_cvZ, if_neg hv] at h2
      refine zr_last (K := some ()) (r := ()) (w' := [(ob, .inl (k 1, 1, .inr (.inl (vp_updL f (0 : Int32).toNatClampNeg (1 : Int64)))))] ++ zz_wC a k z u9) C 0 rfl dL_pin_20 rfl rfl rfl (fun _ => ?_)
      refine zr_goto (tgt := 28) C dL_pin_21 (by decide) ?_
      refine zr_ic (v := (0 : Int32)) C dL_pin_28 (by decide) rfl ?_
      exact hret (0 : Int32) (u9, vp_updL f (0 : Int32).toNatClampNeg (1 : Int64)) 29 _ (2, 12) (by decide) (by decide) dL_pin_29 h2
theorem zm_L_cost_13 : Cond.classLink RL 13 "java/lang/IndexOutOfBoundsException" ∈ wsL_cost := by decide +kernel
theorem zm_L_cost_22 : Cond.classLink RL 22 "java/lang/IllegalArgumentException" ∈ wsL_cost := by decide +kernel
theorem zd_L_cost : yL_cost.cls ≠ "java/lang/invoke/MethodHandle" ∧ yL_cost.cls ≠ "java/lang/invoke/VarHandle" ∧ (parseMethodDescriptor yL_cost.desc).map (fun d => d.parameters.length) = some 6 := by decide +kernel
set_option maxHeartbeats 4000000 in
theorem zc_L_cost (N : Nat) (l : Launch) (D : va_G) (k : Nat → ClassId) {a : Nat → Nat} {ob z : Nat} (S : zz_St) (f : Nat → Int64) (p1 : Int32) (p2 : Int32) (p3 : Int32) (p4 : Int32) (v : Int32) (u : zz_St × (Nat → Int64)) (hst : l.stackTraces = false) (h : zz_LH zz_cvZ zz_h2 (zf_X6_cost N z S p1 p2 p3 p4) f = some (v, u)) : zz_MH l yL_cost wsL_cost ({ frames := 7, cells := 1, slots := 6, locals := 114 } : Room) D k (zz_wH a ob k z) [.ref (a 0), .int p1, .int p2, .int p3, .int p4, .ref ob] (S, f) (v, u) := by
  refine zz_metH (cc := cL_cost) (nL := 7) (hh := [(0, 21, 24, 13), (0, 21, 28, 22)]) hst (by decide) rfl (Nat.le_of_ble_eq_true rfl) ?_
  intro X C T hret
  have C : zz_ok X cL_cost RL wsL_cost k 7 ({ frames := 7, cells := 1, slots := 6, locals := 114 } : Room) := C
  show zz_ww X (0, 0) ([(ob, .inl (k 1, 1, .inr (.inl f)))] ++ zz_wC a k z S) 0 [(0, .ref (a 0)), (1, .int p1), (2, .int p2), (3, .int p3), (4, .int p4), (5, .ref ob)] []
  refine zr_al C 5 dL_cost_0 rfl rfl ?_
  refine zr_ic (v := (0 : Int32)) C dL_cost_2 (by decide) rfl ?_
  refine zr_aln C 0 dL_cost_3 rfl rfl rfl ?_
  refine zr_iln C 1 dL_cost_4 rfl rfl rfl ?_
  refine zr_iln C 2 dL_cost_5 rfl rfl rfl ?_
  refine zr_iln C 3 dL_cost_6 rfl rfl rfl ?_
  refine zr_il C 4 dL_cost_7 rfl rfl ?_
  refine zr_cXf (wr := [(ob, .inl (k 1, 1, .inr (.inl f)))]) (wf := zz_wC a k z) (S := S) (st := [.int (0 : Int32), .ref ob]) C T (fun l D r hl hr => zc_X6_cost N l D k (a := a) (z := z) S p1 p2 p3 p4 r hl hr) gL_cost_X6_cost rfl zd_X6_cost ⟨by decide, by decide⟩ ⟨by decide, by decide⟩ rfl ⟨0, 6, _, _, _, zk_C0, rfl⟩ (Nat.le_of_ble_eq_true rfl) rfl dL_cost_9 rfl rfl ?_ ?_ ?_
  · intro hn
    rw [hn] at h
    cases h
  · intro c9 u9 hF
    rw [hF] at h
    by_cases hc : c9 = 1
    · subst hc
      refine ⟨24, zz_caught1 C T (by decide) (by decide) 1 zm_L_cost_13 (by decide), fun q => ?_⟩
      refine zr_as C [1, 2, 3, 4, 5, 6, 0] dL_cost_24 rfl (by decide) rfl ?_
      refine zr_ic (v := (1 : Int32)) C dL_cost_26 (by decide) rfl ?_
      exact hret (1 : Int32) (u9, f) 27 _ (1, 6) (by decide) (by decide) dL_cost_27 (show some ((1 : Int32), (u9, f)) = some (v, u) from h)
    by_cases hc2 : c9 = 2
    · subst hc2
      refine ⟨28, zz_caught2 C T (by decide) (by decide) (by decide) zm_L_cost_22 zm_L_cost_13, fun q => ?_⟩
      refine zr_as C [1, 2, 3, 4, 5, 6, 0] dL_cost_28 rfl (by decide) rfl ?_
      refine zr_ic (v := (2 : Int32)) C dL_cost_30 (by decide) rfl ?_
      exact hret (2 : Int32) (u9, f) 31 _ (1, 6) (by decide) (by decide) dL_cost_31 (show some ((2 : Int32), (u9, f)) = some (v, u) from h)
    · simp [zz_LH, zz_h2, hc, hc2] at h
  · intro v9 u9 _ hF
    rw [hF] at h
    have h2 : some ((0 : Int32), (u9, vp_updL f (0 : Int32).toNatClampNeg (zz_cvZ v9))) = some (v, u) := h
    by_cases hv : v9 = 0
    · refine zr_if_eq (tgt := 19) (K1 := some ()) (K2 := none) (r := ()) C dL_cost_12 (by decide) rfl (if_pos hv) (fun _ => ?_) (fun h => nomatch h)
      refine zr_lc (v := 0) C dL_cost_19 (by decide) rfl ?_
      rw [zz_cvZ, if_pos hv] at h2
      refine zr_last (K := some ()) (r := ()) (w' := [(ob, .inl (k 1, 1, .inr (.inl (vp_updL f (0 : Int32).toNatClampNeg (0 : Int64)))))] ++ zz_wC a k z u9) C 0 rfl dL_cost_20 rfl rfl rfl (fun _ => ?_)
      refine zr_goto (tgt := 32) C dL_cost_21 (by decide) ?_
      refine zr_ic (v := (0 : Int32)) C dL_cost_32 (by decide) rfl ?_
      exact hret (0 : Int32) (u9, vp_updL f (0 : Int32).toNatClampNeg (0 : Int64)) 33 _ (1, 6) (by decide) (by decide) dL_cost_33 h2
    · refine zr_if_eq (tgt := 19) (K1 := none) (K2 := some ()) (r := ()) C dL_cost_12 (by decide) rfl (if_neg hv) (fun h => nomatch h) (fun _ => ?_)
      refine zr_lc (v := 1) C dL_cost_15 (by decide) rfl ?_
      refine zr_goto (tgt := 20) C dL_cost_16 (by decide) ?_
      rw [zz_cvZ, if_neg hv] at h2
      refine zr_last (K := some ()) (r := ()) (w' := [(ob, .inl (k 1, 1, .inr (.inl (vp_updL f (0 : Int32).toNatClampNeg (1 : Int64)))))] ++ zz_wC a k z u9) C 0 rfl dL_cost_20 rfl rfl rfl (fun _ => ?_)
      refine zr_goto (tgt := 32) C dL_cost_21 (by decide) ?_
      refine zr_ic (v := (0 : Int32)) C dL_cost_32 (by decide) rfl ?_
      exact hret (0 : Int32) (u9, vp_updL f (0 : Int32).toNatClampNeg (1 : Int64)) 33 _ (1, 6) (by decide) (by decide) dL_cost_33 h2
theorem zm_L_run_22 : Cond.classLink RL 22 "java/lang/IllegalArgumentException" ∈ wsL_run := by decide +kernel
theorem zd_L_run : yL_run.cls ≠ "java/lang/invoke/MethodHandle" ∧ yL_run.cls ≠ "java/lang/invoke/VarHandle" ∧ (parseMethodDescriptor yL_run.desc).map (fun d => d.parameters.length) = some 3 := by decide +kernel
set_option maxHeartbeats 4000000 in
theorem zc_L_run (N : Nat) (l : Launch) (D : va_G) (k : Nat → ClassId) {a : Nat → Nat} {ob z : Nat} (S : zz_St) (f : Nat → Int64) (p1 : Int32) (v : Int32) (u : zz_St × (Nat → Int64)) (hst : l.stackTraces = false) (h : zz_LH Int32.toInt64 zz_h3 (zf_X6_run N z S p1) f = some (v, u)) : zz_MH l yL_run wsL_run ({ frames := 7, cells := 1, slots := 6, locals := 165 } : Room) D k (zz_wH a ob k z) [.ref (a 0), .int p1, .ref ob] (S, f) (v, u) := by
  refine zz_metH (cc := cL_run) (nL := 4) (hh := [(0, 9, 12, 22)]) hst (by decide) rfl (Nat.le_of_ble_eq_true rfl) ?_
  intro X C T hret
  have C : zz_ok X cL_run RL wsL_run k 4 ({ frames := 7, cells := 1, slots := 6, locals := 165 } : Room) := C
  show zz_ww X (0, 0) ([(ob, .inl (k 1, 1, .inr (.inl f)))] ++ zz_wC a k z S) 0 [(0, .ref (a 0)), (1, .int p1), (2, .ref ob)] []
  refine zr_aln C 2 dL_run_0 rfl rfl rfl ?_
  refine zr_ic (v := (0 : Int32)) C dL_run_1 (by decide) rfl ?_
  refine zr_aln C 0 dL_run_2 rfl rfl rfl ?_
  refine zr_iln C 1 dL_run_3 rfl rfl rfl ?_
  refine zr_cXf (wr := [(ob, .inl (k 1, 1, .inr (.inl f)))]) (wf := zz_wC a k z) (S := S) (st := [.int (0 : Int32), .ref ob]) C T (fun l D r hl hr => zc_X6_run N l D k (a := a) (z := z) S p1 r hl hr) gL_run_X6_run rfl zd_X6_run ⟨by decide, by decide⟩ ⟨by decide, by decide⟩ rfl ⟨0, 6, _, _, _, zk_C0, rfl⟩ (Nat.le_of_ble_eq_true rfl) rfl dL_run_4 rfl rfl ?_ ?_ ?_
  · intro hn
    rw [hn] at h
    cases h
  · intro c9 u9 hF
    rw [hF] at h
    by_cases hc : c9 = 2
    · subst hc
      refine ⟨12, zz_caught1 C T (by decide) (by decide) 2 zm_L_run_22 (by decide), fun q => ?_⟩
      refine zr_asn C [1, 2, 3, 0] dL_run_12 rfl rfl (by decide) rfl ?_
      refine zr_ic (v := (1 : Int32)) C dL_run_13 (by decide) rfl ?_
      exact hret (1 : Int32) (u9, f) 14 _ (1, 6) (by decide) (by decide) dL_run_14 (show some ((1 : Int32), (u9, f)) = some (v, u) from h)
    · simp [zz_LH, zz_h3, hc] at h
  · intro v9 u9 _ hF
    rw [hF] at h
    have h2 : some ((0 : Int32), (u9, vp_updL f (0 : Int32).toNatClampNeg (Int32.toInt64 v9))) = some (v, u) := h
    refine zr_i2l C dL_run_7 rfl ?_
    refine zr_last (K := some ()) (r := ()) (w' := [(ob, .inl (k 1, 1, .inr (.inl (vp_updL f (0 : Int32).toNatClampNeg v9.toInt64))))] ++ zz_wC a k z u9) C 0 rfl dL_run_8 rfl rfl rfl (fun _ => ?_)
    refine zr_goto (tgt := 15) C dL_run_9 (by decide) ?_
    refine zr_ic (v := (0 : Int32)) C dL_run_15 (by decide) rfl ?_
    exact hret (0 : Int32) (u9, vp_updL f (0 : Int32).toNatClampNeg v9.toInt64) 16 _ (1, 6) (by decide) (by decide) dL_run_16 h2
theorem zm_L_piece_13 : Cond.classLink RL 13 "java/lang/IndexOutOfBoundsException" ∈ wsL_piece := by decide +kernel
theorem zd_L_piece : yL_piece.cls ≠ "java/lang/invoke/MethodHandle" ∧ yL_piece.cls ≠ "java/lang/invoke/VarHandle" ∧ (parseMethodDescriptor yL_piece.desc).map (fun d => d.parameters.length) = some 5 := by decide +kernel
set_option maxHeartbeats 4000000 in
theorem zc_L_piece (N : Nat) (l : Launch) (D : va_G) (k : Nat → ClassId) {a : Nat → Nat} {ob z : Nat} (S : zz_St) (f : Nat → Int64) (p1 : Int32) (p2 : Int32) (p3 : Int32) (v : Int32) (u : zz_St × (Nat → Int64)) (hst : l.stackTraces = false) (h : zz_LH Int32.toInt64 zz_h1 (zf_X6_piece N z S p1 p2 p3) f = some (v, u)) : zz_MH l yL_piece wsL_piece ({ frames := 8, cells := 2, slots := 12, locals := 136 } : Room) D k (zz_wH a ob k z) [.ref (a 0), .int p1, .int p2, .int p3, .ref ob] (S, f) (v, u) := by
  refine zz_metH (cc := cL_piece) (nL := 6) (hh := [(0, 12, 15, 13)]) hst (by decide) rfl (Nat.le_of_ble_eq_true rfl) ?_
  intro X C T hret
  have C : zz_ok X cL_piece RL wsL_piece k 6 ({ frames := 8, cells := 2, slots := 12, locals := 136 } : Room) := C
  show zz_ww X (0, 0) ([(ob, .inl (k 1, 1, .inr (.inl f)))] ++ zz_wC a k z S) 0 [(0, .ref (a 0)), (1, .int p1), (2, .int p2), (3, .int p3), (4, .ref ob)] []
  refine zr_al C 4 dL_piece_0 rfl rfl ?_
  refine zr_ic (v := (0 : Int32)) C dL_piece_2 (by decide) rfl ?_
  refine zr_aln C 0 dL_piece_3 rfl rfl rfl ?_
  refine zr_iln C 1 dL_piece_4 rfl rfl rfl ?_
  refine zr_iln C 2 dL_piece_5 rfl rfl rfl ?_
  refine zr_iln C 3 dL_piece_6 rfl rfl rfl ?_
  refine zr_cXf (wr := [(ob, .inl (k 1, 1, .inr (.inl f)))]) (wf := zz_wC a k z) (S := S) (st := [.int (0 : Int32), .ref ob]) C T (fun l D r hl hr => zc_X6_piece N l D k (a := a) (z := z) S p1 p2 p3 r hl hr) gL_piece_X6_piece rfl zd_X6_piece ⟨by decide, by decide⟩ ⟨by decide, by decide⟩ rfl ⟨0, 6, _, _, _, zk_C0, rfl⟩ (Nat.le_of_ble_eq_true rfl) rfl dL_piece_7 rfl rfl ?_ ?_ ?_
  · intro hn
    rw [hn] at h
    cases h
  · intro c9 u9 hF
    rw [hF] at h
    by_cases hc : c9 = 1
    · subst hc
      refine ⟨15, zz_caught1 C T (by decide) (by decide) 1 zm_L_piece_13 (by decide), fun q => ?_⟩
      refine zr_as C [1, 2, 3, 4, 5, 0] dL_piece_15 rfl (by decide) rfl ?_
      refine zr_ic (v := (1 : Int32)) C dL_piece_17 (by decide) rfl ?_
      exact hret (1 : Int32) (u9, f) 18 _ (2, 12) (by decide) (by decide) dL_piece_18 (show some ((1 : Int32), (u9, f)) = some (v, u) from h)
    · simp [zz_LH, zz_h1, hc] at h
  · intro v9 u9 _ hF
    rw [hF] at h
    have h2 : some ((0 : Int32), (u9, vp_updL f (0 : Int32).toNatClampNeg (Int32.toInt64 v9))) = some (v, u) := h
    refine zr_i2l C dL_piece_10 rfl ?_
    refine zr_last (K := some ()) (r := ()) (w' := [(ob, .inl (k 1, 1, .inr (.inl (vp_updL f (0 : Int32).toNatClampNeg v9.toInt64))))] ++ zz_wC a k z u9) C 0 rfl dL_piece_11 rfl rfl rfl (fun _ => ?_)
    refine zr_goto (tgt := 19) C dL_piece_12 (by decide) ?_
    refine zr_ic (v := (0 : Int32)) C dL_piece_19 (by decide) rfl ?_
    exact hret (0 : Int32) (u9, vp_updL f (0 : Int32).toNatClampNeg v9.toInt64) 20 _ (2, 12) (by decide) (by decide) dL_piece_20 h2
theorem zm_L_costOf_13 : Cond.classLink RL 13 "java/lang/IndexOutOfBoundsException" ∈ wsL_costOf := by decide +kernel
theorem zd_L_costOf : yL_costOf.cls ≠ "java/lang/invoke/MethodHandle" ∧ yL_costOf.cls ≠ "java/lang/invoke/VarHandle" ∧ (parseMethodDescriptor yL_costOf.desc).map (fun d => d.parameters.length) = some 3 := by decide +kernel
set_option maxHeartbeats 4000000 in
theorem zc_L_costOf (N : Nat) (l : Launch) (D : va_G) (k : Nat → ClassId) {a : Nat → Nat} {ob z : Nat} (S : zz_St) (f : Nat → Int64) (p1 : Int32) (v : Int32) (u : zz_St × (Nat → Int64)) (hst : l.stackTraces = false) (h : zz_LH (fun v : Int64 => v) zz_h1 (zf_X6_costOf N z S p1) f = some (v, u)) : zz_MH l yL_costOf wsL_costOf ({ frames := 8, cells := 1, slots := 6, locals := 133 } : Room) D k (zz_wH a ob k z) [.ref (a 0), .int p1, .ref ob] (S, f) (v, u) := by
  refine zz_metH (cc := cL_costOf) (nL := 4) (hh := [(0, 8, 11, 13)]) hst (by decide) rfl (Nat.le_of_ble_eq_true rfl) ?_
  intro X C T hret
  have C : zz_ok X cL_costOf RL wsL_costOf k 4 ({ frames := 8, cells := 1, slots := 6, locals := 133 } : Room) := C
  show zz_ww X (0, 0) ([(ob, .inl (k 1, 1, .inr (.inl f)))] ++ zz_wC a k z S) 0 [(0, .ref (a 0)), (1, .int p1), (2, .ref ob)] []
  refine zr_aln C 2 dL_costOf_0 rfl rfl rfl ?_
  refine zr_ic (v := (0 : Int32)) C dL_costOf_1 (by decide) rfl ?_
  refine zr_aln C 0 dL_costOf_2 rfl rfl rfl ?_
  refine zr_iln C 1 dL_costOf_3 rfl rfl rfl ?_
  refine zr_cXf (wr := [(ob, .inl (k 1, 1, .inr (.inl f)))]) (wf := zz_wC a k z) (S := S) (st := [.int (0 : Int32), .ref ob]) C T (fun l D r hl hr => zc_X6_costOf N l D k (a := a) (z := z) S p1 r hl hr) gL_costOf_X6_costOf rfl zd_X6_costOf ⟨by decide, by decide⟩ ⟨by decide, by decide⟩ rfl ⟨0, 6, _, _, _, zk_C0, rfl⟩ (Nat.le_of_ble_eq_true rfl) rfl dL_costOf_4 rfl rfl ?_ ?_ ?_
  · intro hn
    rw [hn] at h
    cases h
  · intro c9 u9 hF
    rw [hF] at h
    by_cases hc : c9 = 1
    · subst hc
      refine ⟨11, zz_caught1 C T (by decide) (by decide) 1 zm_L_costOf_13 (by decide), fun q => ?_⟩
      refine zr_asn C [1, 2, 3, 0] dL_costOf_11 rfl rfl (by decide) rfl ?_
      refine zr_ic (v := (1 : Int32)) C dL_costOf_12 (by decide) rfl ?_
      exact hret (1 : Int32) (u9, f) 13 _ (1, 6) (by decide) (by decide) dL_costOf_13 (show some ((1 : Int32), (u9, f)) = some (v, u) from h)
    · simp [zz_LH, zz_h1, hc] at h
  · intro v9 u9 _ hF
    rw [hF] at h
    have h2 : some ((0 : Int32), (u9, vp_updL f (0 : Int32).toNatClampNeg ((fun v : Int64 => v) v9))) = some (v, u) := h
    refine zr_last (K := some ()) (r := ()) (w' := [(ob, .inl (k 1, 1, .inr (.inl (vp_updL f (0 : Int32).toNatClampNeg v9))))] ++ zz_wC a k z u9) C 0 rfl dL_costOf_7 rfl rfl rfl (fun _ => ?_)
    refine zr_goto (tgt := 14) C dL_costOf_8 (by decide) ?_
    refine zr_ic (v := (0 : Int32)) C dL_costOf_14 (by decide) rfl ?_
    exact hret (0 : Int32) (u9, vp_updL f (0 : Int32).toNatClampNeg v9) 15 _ (1, 6) (by decide) (by decide) dL_costOf_15 h2
theorem zm_L_ripped_13 : Cond.classLink RL 13 "java/lang/IndexOutOfBoundsException" ∈ wsL_ripped := by decide +kernel
theorem zd_L_ripped : yL_ripped.cls ≠ "java/lang/invoke/MethodHandle" ∧ yL_ripped.cls ≠ "java/lang/invoke/VarHandle" ∧ (parseMethodDescriptor yL_ripped.desc).map (fun d => d.parameters.length) = some 3 := by decide +kernel
set_option maxHeartbeats 4000000 in
theorem zc_L_ripped (N : Nat) (l : Launch) (D : va_G) (k : Nat → ClassId) {a : Nat → Nat} {ob z : Nat} (S : zz_St) (f : Nat → Int64) (p1 : Int32) (v : Int32) (u : zz_St × (Nat → Int64)) (hst : l.stackTraces = false) (h : zz_LH Int32.toInt64 zz_h1 (zf_X6_ripped N z S p1) f = some (v, u)) : zz_MH l yL_ripped wsL_ripped ({ frames := 8, cells := 1, slots := 6, locals := 132 } : Room) D k (zz_wH a ob k z) [.ref (a 0), .int p1, .ref ob] (S, f) (v, u) := by
  refine zz_metH (cc := cL_ripped) (nL := 4) (hh := [(0, 9, 12, 13)]) hst (by decide) rfl (Nat.le_of_ble_eq_true rfl) ?_
  intro X C T hret
  have C : zz_ok X cL_ripped RL wsL_ripped k 4 ({ frames := 8, cells := 1, slots := 6, locals := 132 } : Room) := C
  show zz_ww X (0, 0) ([(ob, .inl (k 1, 1, .inr (.inl f)))] ++ zz_wC a k z S) 0 [(0, .ref (a 0)), (1, .int p1), (2, .ref ob)] []
  refine zr_aln C 2 dL_ripped_0 rfl rfl rfl ?_
  refine zr_ic (v := (0 : Int32)) C dL_ripped_1 (by decide) rfl ?_
  refine zr_aln C 0 dL_ripped_2 rfl rfl rfl ?_
  refine zr_iln C 1 dL_ripped_3 rfl rfl rfl ?_
  refine zr_cXf (wr := [(ob, .inl (k 1, 1, .inr (.inl f)))]) (wf := zz_wC a k z) (S := S) (st := [.int (0 : Int32), .ref ob]) C T (fun l D r hl hr => zc_X6_ripped N l D k (a := a) (z := z) S p1 r hl hr) gL_ripped_X6_ripped rfl zd_X6_ripped ⟨by decide, by decide⟩ ⟨by decide, by decide⟩ rfl ⟨0, 6, _, _, _, zk_C0, rfl⟩ (Nat.le_of_ble_eq_true rfl) rfl dL_ripped_4 rfl rfl ?_ ?_ ?_
  · intro hn
    rw [hn] at h
    cases h
  · intro c9 u9 hF
    rw [hF] at h
    by_cases hc : c9 = 1
    · subst hc
      refine ⟨12, zz_caught1 C T (by decide) (by decide) 1 zm_L_ripped_13 (by decide), fun q => ?_⟩
      refine zr_asn C [1, 2, 3, 0] dL_ripped_12 rfl rfl (by decide) rfl ?_
      refine zr_ic (v := (1 : Int32)) C dL_ripped_13 (by decide) rfl ?_
      exact hret (1 : Int32) (u9, f) 14 _ (1, 6) (by decide) (by decide) dL_ripped_14 (show some ((1 : Int32), (u9, f)) = some (v, u) from h)
    · simp [zz_LH, zz_h1, hc] at h
  · intro v9 u9 _ hF
    rw [hF] at h
    have h2 : some ((0 : Int32), (u9, vp_updL f (0 : Int32).toNatClampNeg (Int32.toInt64 v9))) = some (v, u) := h
    refine zr_i2l C dL_ripped_7 rfl ?_
    refine zr_last (K := some ()) (r := ()) (w' := [(ob, .inl (k 1, 1, .inr (.inl (vp_updL f (0 : Int32).toNatClampNeg v9.toInt64))))] ++ zz_wC a k z u9) C 0 rfl dL_ripped_8 rfl rfl rfl (fun _ => ?_)
    refine zr_goto (tgt := 15) C dL_ripped_9 (by decide) ?_
    refine zr_ic (v := (0 : Int32)) C dL_ripped_15 (by decide) rfl ?_
    exact hret (0 : Int32) (u9, vp_updL f (0 : Int32).toNatClampNeg v9.toInt64) 16 _ (1, 6) (by decide) (by decide) dL_ripped_16 h2
theorem zm_L_history_13 : Cond.classLink RL 13 "java/lang/IndexOutOfBoundsException" ∈ wsL_history := by decide +kernel
theorem zd_L_history : yL_history.cls ≠ "java/lang/invoke/MethodHandle" ∧ yL_history.cls ≠ "java/lang/invoke/VarHandle" ∧ (parseMethodDescriptor yL_history.desc).map (fun d => d.parameters.length) = some 5 := by decide +kernel
set_option maxHeartbeats 4000000 in
theorem zc_L_history (N : Nat) (l : Launch) (D : va_G) (k : Nat → ClassId) {a : Nat → Nat} {ob z : Nat} (S : zz_St) (f : Nat → Int64) (p1 : Int32) (p2 : Int32) (p3 : Int32) (v : Int32) (u : zz_St × (Nat → Int64)) (hst : l.stackTraces = false) (h : zz_LH (fun v : Int64 => v) zz_h1 (zf_X6_history N z S p1 p2 p3) f = some (v, u)) : zz_MH l yL_history wsL_history ({ frames := 8, cells := 1, slots := 6, locals := 136 } : Room) D k (zz_wH a ob k z) [.ref (a 0), .int p1, .int p2, .int p3, .ref ob] (S, f) (v, u) := by
  refine zz_metH (cc := cL_history) (nL := 6) (hh := [(0, 11, 14, 13)]) hst (by decide) rfl (Nat.le_of_ble_eq_true rfl) ?_
  intro X C T hret
  have C : zz_ok X cL_history RL wsL_history k 6 ({ frames := 8, cells := 1, slots := 6, locals := 136 } : Room) := C
  show zz_ww X (0, 0) ([(ob, .inl (k 1, 1, .inr (.inl f)))] ++ zz_wC a k z S) 0 [(0, .ref (a 0)), (1, .int p1), (2, .int p2), (3, .int p3), (4, .ref ob)] []
  refine zr_al C 4 dL_history_0 rfl rfl ?_
  refine zr_ic (v := (0 : Int32)) C dL_history_2 (by decide) rfl ?_
  refine zr_aln C 0 dL_history_3 rfl rfl rfl ?_
  refine zr_iln C 1 dL_history_4 rfl rfl rfl ?_
  refine zr_iln C 2 dL_history_5 rfl rfl rfl ?_
  refine zr_iln C 3 dL_history_6 rfl rfl rfl ?_
  refine zr_cXf (wr := [(ob, .inl (k 1, 1, .inr (.inl f)))]) (wf := zz_wC a k z) (S := S) (st := [.int (0 : Int32), .ref ob]) C T (fun l D r hl hr => zc_X6_history N l D k (a := a) (z := z) S p1 p2 p3 r hl hr) gL_history_X6_history rfl zd_X6_history ⟨by decide, by decide⟩ ⟨by decide, by decide⟩ rfl ⟨0, 6, _, _, _, zk_C0, rfl⟩ (Nat.le_of_ble_eq_true rfl) rfl dL_history_7 rfl rfl ?_ ?_ ?_
  · intro hn
    rw [hn] at h
    cases h
  · intro c9 u9 hF
    rw [hF] at h
    by_cases hc : c9 = 1
    · subst hc
      refine ⟨14, zz_caught1 C T (by decide) (by decide) 1 zm_L_history_13 (by decide), fun q => ?_⟩
      refine zr_as C [1, 2, 3, 4, 5, 0] dL_history_14 rfl (by decide) rfl ?_
      refine zr_ic (v := (1 : Int32)) C dL_history_16 (by decide) rfl ?_
      exact hret (1 : Int32) (u9, f) 17 _ (1, 6) (by decide) (by decide) dL_history_17 (show some ((1 : Int32), (u9, f)) = some (v, u) from h)
    · simp [zz_LH, zz_h1, hc] at h
  · intro v9 u9 _ hF
    rw [hF] at h
    have h2 : some ((0 : Int32), (u9, vp_updL f (0 : Int32).toNatClampNeg ((fun v : Int64 => v) v9))) = some (v, u) := h
    refine zr_last (K := some ()) (r := ()) (w' := [(ob, .inl (k 1, 1, .inr (.inl (vp_updL f (0 : Int32).toNatClampNeg v9))))] ++ zz_wC a k z u9) C 0 rfl dL_history_10 rfl rfl rfl (fun _ => ?_)
    refine zr_goto (tgt := 18) C dL_history_11 (by decide) ?_
    refine zr_ic (v := (0 : Int32)) C dL_history_18 (by decide) rfl ?_
    exact hret (0 : Int32) (u9, vp_updL f (0 : Int32).toNatClampNeg v9) 19 _ (1, 6) (by decide) (by decide) dL_history_19 h2
theorem zm_L_blocking_13 : Cond.classLink RL 13 "java/lang/IndexOutOfBoundsException" ∈ wsL_blocking := by decide +kernel
theorem zd_L_blocking : yL_blocking.cls ≠ "java/lang/invoke/MethodHandle" ∧ yL_blocking.cls ≠ "java/lang/invoke/VarHandle" ∧ (parseMethodDescriptor yL_blocking.desc).map (fun d => d.parameters.length) = some 4 := by decide +kernel
set_option maxHeartbeats 4000000 in
theorem zc_L_blocking (N : Nat) (l : Launch) (D : va_G) (k : Nat → ClassId) {a : Nat → Nat} {ob z : Nat} (S : zz_St) (f : Nat → Int64) (p1 : Int32) (p2 : Int32) (v : Int32) (u : zz_St × (Nat → Int64)) (hst : l.stackTraces = false) (h : zz_LH Int32.toInt64 zz_h1 (zf_X6_blocking N z S p1 p2) f = some (v, u)) : zz_MH l yL_blocking wsL_blocking ({ frames := 8, cells := 1, slots := 6, locals := 133 } : Room) D k (zz_wH a ob k z) [.ref (a 0), .int p1, .int p2, .ref ob] (S, f) (v, u) := by
  refine zz_metH (cc := cL_blocking) (nL := 5) (hh := [(0, 10, 13, 13)]) hst (by decide) rfl (Nat.le_of_ble_eq_true rfl) ?_
  intro X C T hret
  have C : zz_ok X cL_blocking RL wsL_blocking k 5 ({ frames := 8, cells := 1, slots := 6, locals := 133 } : Room) := C
  show zz_ww X (0, 0) ([(ob, .inl (k 1, 1, .inr (.inl f)))] ++ zz_wC a k z S) 0 [(0, .ref (a 0)), (1, .int p1), (2, .int p2), (3, .ref ob)] []
  refine zr_aln C 3 dL_blocking_0 rfl rfl rfl ?_
  refine zr_ic (v := (0 : Int32)) C dL_blocking_1 (by decide) rfl ?_
  refine zr_aln C 0 dL_blocking_2 rfl rfl rfl ?_
  refine zr_iln C 1 dL_blocking_3 rfl rfl rfl ?_
  refine zr_iln C 2 dL_blocking_4 rfl rfl rfl ?_
  refine zr_cXf (wr := [(ob, .inl (k 1, 1, .inr (.inl f)))]) (wf := zz_wC a k z) (S := S) (st := [.int (0 : Int32), .ref ob]) C T (fun l D r hl hr => zc_X6_blocking N l D k (a := a) (z := z) S p1 p2 r hl hr) gL_blocking_X6_blocking rfl zd_X6_blocking ⟨by decide, by decide⟩ ⟨by decide, by decide⟩ rfl ⟨0, 6, _, _, _, zk_C0, rfl⟩ (Nat.le_of_ble_eq_true rfl) rfl dL_blocking_5 rfl rfl ?_ ?_ ?_
  · intro hn
    rw [hn] at h
    cases h
  · intro c9 u9 hF
    rw [hF] at h
    by_cases hc : c9 = 1
    · subst hc
      refine ⟨13, zz_caught1 C T (by decide) (by decide) 1 zm_L_blocking_13 (by decide), fun q => ?_⟩
      refine zr_as C [1, 2, 3, 4, 0] dL_blocking_13 rfl (by decide) rfl ?_
      refine zr_ic (v := (1 : Int32)) C dL_blocking_15 (by decide) rfl ?_
      exact hret (1 : Int32) (u9, f) 16 _ (1, 6) (by decide) (by decide) dL_blocking_16 (show some ((1 : Int32), (u9, f)) = some (v, u) from h)
    · simp [zz_LH, zz_h1, hc] at h
  · intro v9 u9 _ hF
    rw [hF] at h
    have h2 : some ((0 : Int32), (u9, vp_updL f (0 : Int32).toNatClampNeg (Int32.toInt64 v9))) = some (v, u) := h
    refine zr_i2l C dL_blocking_8 rfl ?_
    refine zr_last (K := some ()) (r := ()) (w' := [(ob, .inl (k 1, 1, .inr (.inl (vp_updL f (0 : Int32).toNatClampNeg v9.toInt64))))] ++ zz_wC a k z u9) C 0 rfl dL_blocking_9 rfl rfl rfl (fun _ => ?_)
    refine zr_goto (tgt := 17) C dL_blocking_10 (by decide) ?_
    refine zr_ic (v := (0 : Int32)) C dL_blocking_17 (by decide) rfl ?_
    exact hret (0 : Int32) (u9, vp_updL f (0 : Int32).toNatClampNeg v9.toInt64) 18 _ (1, 6) (by decide) (by decide) dL_blocking_18 h2
theorem zm_L_joined_13 : Cond.classLink RL 13 "java/lang/IndexOutOfBoundsException" ∈ wsL_joined := by decide +kernel
theorem zd_L_joined : yL_joined.cls ≠ "java/lang/invoke/MethodHandle" ∧ yL_joined.cls ≠ "java/lang/invoke/VarHandle" ∧ (parseMethodDescriptor yL_joined.desc).map (fun d => d.parameters.length) = some 3 := by decide +kernel
set_option maxHeartbeats 4000000 in
theorem zc_L_joined (N : Nat) (l : Launch) (D : va_G) (k : Nat → ClassId) {a : Nat → Nat} {ob z : Nat} (S : zz_St) (f : Nat → Int64) (p1 : Int32) (v : Int32) (u : zz_St × (Nat → Int64)) (hst : l.stackTraces = false) (h : zz_LH zz_cvZ zz_h1 (zf_X6_joined N z S p1) f = some (v, u)) : zz_MH l yL_joined wsL_joined ({ frames := 8, cells := 1, slots := 6, locals := 132 } : Room) D k (zz_wH a ob k z) [.ref (a 0), .int p1, .ref ob] (S, f) (v, u) := by
  refine zz_metH (cc := cL_joined) (nL := 4) (hh := [(0, 16, 19, 13)]) hst (by decide) rfl (Nat.le_of_ble_eq_true rfl) ?_
  intro X C T hret
  have C : zz_ok X cL_joined RL wsL_joined k 4 ({ frames := 8, cells := 1, slots := 6, locals := 132 } : Room) := C
  show zz_ww X (0, 0) ([(ob, .inl (k 1, 1, .inr (.inl f)))] ++ zz_wC a k z S) 0 [(0, .ref (a 0)), (1, .int p1), (2, .ref ob)] []
  refine zr_aln C 2 dL_joined_0 rfl rfl rfl ?_
  refine zr_ic (v := (0 : Int32)) C dL_joined_1 (by decide) rfl ?_
  refine zr_aln C 0 dL_joined_2 rfl rfl rfl ?_
  refine zr_iln C 1 dL_joined_3 rfl rfl rfl ?_
  refine zr_cXf (wr := [(ob, .inl (k 1, 1, .inr (.inl f)))]) (wf := zz_wC a k z) (S := S) (st := [.int (0 : Int32), .ref ob]) C T (fun l D r hl hr => zc_X6_joined N l D k (a := a) (z := z) S p1 r hl hr) gL_joined_X6_joined rfl zd_X6_joined ⟨by decide, by decide⟩ ⟨by decide, by decide⟩ rfl ⟨0, 6, _, _, _, zk_C0, rfl⟩ (Nat.le_of_ble_eq_true rfl) rfl dL_joined_4 rfl rfl ?_ ?_ ?_
  · intro hn
    rw [hn] at h
    cases h
  · intro c9 u9 hF
    rw [hF] at h
    by_cases hc : c9 = 1
    · subst hc
      refine ⟨19, zz_caught1 C T (by decide) (by decide) 1 zm_L_joined_13 (by decide), fun q => ?_⟩
      refine zr_asn C [1, 2, 3, 0] dL_joined_19 rfl rfl (by decide) rfl ?_
      refine zr_ic (v := (1 : Int32)) C dL_joined_20 (by decide) rfl ?_
      exact hret (1 : Int32) (u9, f) 21 _ (1, 6) (by decide) (by decide) dL_joined_21 (show some ((1 : Int32), (u9, f)) = some (v, u) from h)
    · simp [zz_LH, zz_h1, hc] at h
  · intro v9 u9 _ hF
    rw [hF] at h
    have h2 : some ((0 : Int32), (u9, vp_updL f (0 : Int32).toNatClampNeg (zz_cvZ v9))) = some (v, u) := h
    by_cases hv : v9 = 0
    · refine zr_if_eq (tgt := 14) (K1 := some ()) (K2 := none) (r := ()) C dL_joined_7 (by decide) rfl (if_pos hv) (fun _ => ?_) (fun h => nomatch h)
      refine zr_lc (v := 0) C dL_joined_14 (by decide) rfl ?_
      rw [zz_cvZ, if_pos hv] at h2
      refine zr_last (K := some ()) (r := ()) (w' := [(ob, .inl (k 1, 1, .inr (.inl (vp_updL f (0 : Int32).toNatClampNeg (0 : Int64)))))] ++ zz_wC a k z u9) C 0 rfl dL_joined_15 rfl rfl rfl (fun _ => ?_)
      refine zr_goto (tgt := 22) C dL_joined_16 (by decide) ?_
      refine zr_ic (v := (0 : Int32)) C dL_joined_22 (by decide) rfl ?_
      exact hret (0 : Int32) (u9, vp_updL f (0 : Int32).toNatClampNeg (0 : Int64)) 23 _ (1, 6) (by decide) (by decide) dL_joined_23 h2
    · refine zr_if_eq (tgt := 14) (K1 := none) (K2 := some ()) (r := ()) C dL_joined_7 (by decide) rfl (if_neg hv) (fun h => nomatch h) (fun _ => ?_)
      refine zr_lc (v := 1) C dL_joined_10 (by decide) rfl ?_
      refine zr_goto (tgt := 15) C dL_joined_11 (by decide) ?_
      rw [zz_cvZ, if_neg hv] at h2
      refine zr_last (K := some ()) (r := ()) (w' := [(ob, .inl (k 1, 1, .inr (.inl (vp_updL f (0 : Int32).toNatClampNeg (1 : Int64)))))] ++ zz_wC a k z u9) C 0 rfl dL_joined_15 rfl rfl rfl (fun _ => ?_)
      refine zr_goto (tgt := 22) C dL_joined_16 (by decide) ?_
      refine zr_ic (v := (0 : Int32)) C dL_joined_22 (by decide) rfl ?_
      exact hret (0 : Int32) (u9, vp_updL f (0 : Int32).toNatClampNeg (1 : Int64)) 23 _ (1, 6) (by decide) (by decide) dL_joined_23 h2
theorem zm_L_corridor_13 : Cond.classLink RL 13 "java/lang/IndexOutOfBoundsException" ∈ wsL_corridor := by decide +kernel
theorem zd_L_corridor : yL_corridor.cls ≠ "java/lang/invoke/MethodHandle" ∧ yL_corridor.cls ≠ "java/lang/invoke/VarHandle" ∧ (parseMethodDescriptor yL_corridor.desc).map (fun d => d.parameters.length) = some 4 := by decide +kernel
set_option maxHeartbeats 4000000 in
theorem zc_L_corridor (N : Nat) (l : Launch) (D : va_G) (k : Nat → ClassId) {a : Nat → Nat} {ob z : Nat} (S : zz_St) (f : Nat → Int64) (p1 : Int32) (p2 : Int32) (v : Int32) (u : zz_St × (Nat → Int64)) (hst : l.stackTraces = false) (h : zz_LH Int32.toInt64 zz_h1 (zf_X6_corridor N z S p1 p2) f = some (v, u)) : zz_MH l yL_corridor wsL_corridor ({ frames := 8, cells := 1, slots := 6, locals := 136 } : Room) D k (zz_wH a ob k z) [.ref (a 0), .int p1, .int p2, .ref ob] (S, f) (v, u) := by
  refine zz_metH (cc := cL_corridor) (nL := 5) (hh := [(0, 10, 13, 13)]) hst (by decide) rfl (Nat.le_of_ble_eq_true rfl) ?_
  intro X C T hret
  have C : zz_ok X cL_corridor RL wsL_corridor k 5 ({ frames := 8, cells := 1, slots := 6, locals := 136 } : Room) := C
  show zz_ww X (0, 0) ([(ob, .inl (k 1, 1, .inr (.inl f)))] ++ zz_wC a k z S) 0 [(0, .ref (a 0)), (1, .int p1), (2, .int p2), (3, .ref ob)] []
  refine zr_aln C 3 dL_corridor_0 rfl rfl rfl ?_
  refine zr_ic (v := (0 : Int32)) C dL_corridor_1 (by decide) rfl ?_
  refine zr_aln C 0 dL_corridor_2 rfl rfl rfl ?_
  refine zr_iln C 1 dL_corridor_3 rfl rfl rfl ?_
  refine zr_iln C 2 dL_corridor_4 rfl rfl rfl ?_
  refine zr_cXf (wr := [(ob, .inl (k 1, 1, .inr (.inl f)))]) (wf := zz_wC a k z) (S := S) (st := [.int (0 : Int32), .ref ob]) C T (fun l D r hl hr => zc_X6_corridor N l D k (a := a) (z := z) S p1 p2 r hl hr) gL_corridor_X6_corridor rfl zd_X6_corridor ⟨by decide, by decide⟩ ⟨by decide, by decide⟩ rfl ⟨0, 6, _, _, _, zk_C0, rfl⟩ (Nat.le_of_ble_eq_true rfl) rfl dL_corridor_5 rfl rfl ?_ ?_ ?_
  · intro hn
    rw [hn] at h
    cases h
  · intro c9 u9 hF
    rw [hF] at h
    by_cases hc : c9 = 1
    · subst hc
      refine ⟨13, zz_caught1 C T (by decide) (by decide) 1 zm_L_corridor_13 (by decide), fun q => ?_⟩
      refine zr_as C [1, 2, 3, 4, 0] dL_corridor_13 rfl (by decide) rfl ?_
      refine zr_ic (v := (1 : Int32)) C dL_corridor_15 (by decide) rfl ?_
      exact hret (1 : Int32) (u9, f) 16 _ (1, 6) (by decide) (by decide) dL_corridor_16 (show some ((1 : Int32), (u9, f)) = some (v, u) from h)
    · simp [zz_LH, zz_h1, hc] at h
  · intro v9 u9 _ hF
    rw [hF] at h
    have h2 : some ((0 : Int32), (u9, vp_updL f (0 : Int32).toNatClampNeg (Int32.toInt64 v9))) = some (v, u) := h
    refine zr_i2l C dL_corridor_8 rfl ?_
    refine zr_last (K := some ()) (r := ()) (w' := [(ob, .inl (k 1, 1, .inr (.inl (vp_updL f (0 : Int32).toNatClampNeg v9.toInt64))))] ++ zz_wC a k z u9) C 0 rfl dL_corridor_9 rfl rfl rfl (fun _ => ?_)
    refine zr_goto (tgt := 17) C dL_corridor_10 (by decide) ?_
    refine zr_ic (v := (0 : Int32)) C dL_corridor_17 (by decide) rfl ?_
    exact hret (0 : Int32) (u9, vp_updL f (0 : Int32).toNatClampNeg v9.toInt64) 18 _ (1, 6) (by decide) (by decide) dL_corridor_18 h2
theorem zm_L_band_13 : Cond.classLink RL 13 "java/lang/IndexOutOfBoundsException" ∈ wsL_band := by decide +kernel
theorem zd_L_band : yL_band.cls ≠ "java/lang/invoke/MethodHandle" ∧ yL_band.cls ≠ "java/lang/invoke/VarHandle" ∧ (parseMethodDescriptor yL_band.desc).map (fun d => d.parameters.length) = some 3 := by decide +kernel
set_option maxHeartbeats 4000000 in
theorem zc_L_band (N : Nat) (l : Launch) (D : va_G) (k : Nat → ClassId) {a : Nat → Nat} {ob z : Nat} (S : zz_St) (f : Nat → Int64) (p1 : Int32) (v : Int32) (u : zz_St × (Nat → Int64)) (hst : l.stackTraces = false) (h : zz_LH zz_cvZ zz_h1 (zf_X6_band N z S p1) f = some (v, u)) : zz_MH l yL_band wsL_band ({ frames := 8, cells := 1, slots := 6, locals := 133 } : Room) D k (zz_wH a ob k z) [.ref (a 0), .int p1, .ref ob] (S, f) (v, u) := by
  refine zz_metH (cc := cL_band) (nL := 4) (hh := [(0, 16, 19, 13)]) hst (by decide) rfl (Nat.le_of_ble_eq_true rfl) ?_
  intro X C T hret
  have C : zz_ok X cL_band RL wsL_band k 4 ({ frames := 8, cells := 1, slots := 6, locals := 133 } : Room) := C
  show zz_ww X (0, 0) ([(ob, .inl (k 1, 1, .inr (.inl f)))] ++ zz_wC a k z S) 0 [(0, .ref (a 0)), (1, .int p1), (2, .ref ob)] []
  refine zr_aln C 2 dL_band_0 rfl rfl rfl ?_
  refine zr_ic (v := (0 : Int32)) C dL_band_1 (by decide) rfl ?_
  refine zr_aln C 0 dL_band_2 rfl rfl rfl ?_
  refine zr_iln C 1 dL_band_3 rfl rfl rfl ?_
  refine zr_cXf (wr := [(ob, .inl (k 1, 1, .inr (.inl f)))]) (wf := zz_wC a k z) (S := S) (st := [.int (0 : Int32), .ref ob]) C T (fun l D r hl hr => zc_X6_band N l D k (a := a) (z := z) S p1 r hl hr) gL_band_X6_band rfl zd_X6_band ⟨by decide, by decide⟩ ⟨by decide, by decide⟩ rfl ⟨0, 6, _, _, _, zk_C0, rfl⟩ (Nat.le_of_ble_eq_true rfl) rfl dL_band_4 rfl rfl ?_ ?_ ?_
  · intro hn
    rw [hn] at h
    cases h
  · intro c9 u9 hF
    rw [hF] at h
    by_cases hc : c9 = 1
    · subst hc
      refine ⟨19, zz_caught1 C T (by decide) (by decide) 1 zm_L_band_13 (by decide), fun q => ?_⟩
      refine zr_asn C [1, 2, 3, 0] dL_band_19 rfl rfl (by decide) rfl ?_
      refine zr_ic (v := (1 : Int32)) C dL_band_20 (by decide) rfl ?_
      exact hret (1 : Int32) (u9, f) 21 _ (1, 6) (by decide) (by decide) dL_band_21 (show some ((1 : Int32), (u9, f)) = some (v, u) from h)
    · simp [zz_LH, zz_h1, hc] at h
  · intro v9 u9 _ hF
    rw [hF] at h
    have h2 : some ((0 : Int32), (u9, vp_updL f (0 : Int32).toNatClampNeg (zz_cvZ v9))) = some (v, u) := h
    by_cases hv : v9 = 0
    · refine zr_if_eq (tgt := 14) (K1 := some ()) (K2 := none) (r := ()) C dL_band_7 (by decide) rfl (if_pos hv) (fun _ => ?_) (fun h => nomatch h)
      refine zr_lc (v := 0) C dL_band_14 (by decide) rfl ?_
      rw [zz_cvZ, if_pos hv] at h2
      refine zr_last (K := some ()) (r := ()) (w' := [(ob, .inl (k 1, 1, .inr (.inl (vp_updL f (0 : Int32).toNatClampNeg (0 : Int64)))))] ++ zz_wC a k z u9) C 0 rfl dL_band_15 rfl rfl rfl (fun _ => ?_)
      refine zr_goto (tgt := 22) C dL_band_16 (by decide) ?_
      refine zr_ic (v := (0 : Int32)) C dL_band_22 (by decide) rfl ?_
      exact hret (0 : Int32) (u9, vp_updL f (0 : Int32).toNatClampNeg (0 : Int64)) 23 _ (1, 6) (by decide) (by decide) dL_band_23 h2
    · refine zr_if_eq (tgt := 14) (K1 := none) (K2 := some ()) (r := ()) C dL_band_7 (by decide) rfl (if_neg hv) (fun h => nomatch h) (fun _ => ?_)
      refine zr_lc (v := 1) C dL_band_10 (by decide) rfl ?_
      refine zr_goto (tgt := 15) C dL_band_11 (by decide) ?_
      rw [zz_cvZ, if_neg hv] at h2
      refine zr_last (K := some ()) (r := ()) (w' := [(ob, .inl (k 1, 1, .inr (.inl (vp_updL f (0 : Int32).toNatClampNeg (1 : Int64)))))] ++ zz_wC a k z u9) C 0 rfl dL_band_15 rfl rfl rfl (fun _ => ?_)
      refine zr_goto (tgt := 22) C dL_band_16 (by decide) ?_
      refine zr_ic (v := (0 : Int32)) C dL_band_22 (by decide) rfl ?_
      exact hret (0 : Int32) (u9, vp_updL f (0 : Int32).toNatClampNeg (1 : Int64)) 23 _ (1, 6) (by decide) (by decide) dL_band_23 h2

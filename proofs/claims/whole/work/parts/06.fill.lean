theorem zz_fillupI {f : Nat → Int32} {v : Int32} {i : Nat} : upd (fun j => if j < i then v else f j) i v = (fun j => if j < i + 1 then v else f j) := by
  funext j
  unfold upd
  by_cases h : j = i
  · subst h; simp
  · by_cases h2 : j < i
    · simp [h, h2, Nat.lt_succ_of_lt h2]
    · have h3 : ¬ j < i + 1 := by omega
      simp [h, h2, h3]
set_option maxHeartbeats 4000000 in
theorem zc_fillI (l : Launch) (D : va_G) (k : Nat → ClassId) {w : va_W} {q0 b N : Nat} {f : Nat → Int32} (v : Int32) (he : w[q0]? = some (b, .inl (k 0, N, .inl f))) (hN : N < 2147483648) : zz_MV (σ := va_W) l yJ7_fill_53178 wsJ7_fill_53178 ({ frames := 0, cells := 0, slots := 0, locals := 0 } : Room) D k id [.ref b, .int v] w (w.set q0 (b, .inl (k 0, N, .inl (fun j => if j < N then v else f j)))) := by
  refine zz_metV (cc := cJ7_fill_53178) (nL := 4) (by decide) rfl (Nat.le_of_ble_eq_true rfl) ?_
  intro X C hret
  have C : zz_ok X cJ7_fill_53178 RJ7 wsJ7_fill_53178 k 4 ({ frames := 0, cells := 0, slots := 0, locals := 0 } : Room) := C
  have hlt : q0 < w.length := (List.getElem?_eq_some_iff.mp he).1
  have loop : ∀ m i : Nat, i + m = N → zz_ww X (0, 0) (w.set q0 (b, .inl (k 0, N, .inl (fun j => if j < i then v else f j)))) 5 [(0, .ref b), (1, .int v), (2, .int (nI i)), (3, .int (nI N))] [] := by
    intro m
    induction m with
    | zero =>
      intro i hi
      have hi : i = N := by omega
      subst hi
      refine zr_iln C 2 dJ7_fill_53178_5 rfl rfl rfl ?_
      refine zr_iln C 3 dJ7_fill_53178_6 rfl rfl rfl ?_
      refine zr_icmp_ge (tgt := 20) (K1 := some ()) (K2 := none) (r := ()) C dJ7_fill_53178_7 (by decide) rfl (if_pos (nI_le (Nat.le_refl _) hN)) (fun _ => ?_) (fun h => nomatch h)
      exact hret _ 20 _ (0, 0) (Nat.zero_le _) (Nat.zero_le _) dJ7_fill_53178_20 rfl
    | succ m ih =>
      intro i hi
      have hi2 : i < N := by omega
      refine zr_iln C 2 dJ7_fill_53178_5 rfl rfl rfl ?_
      refine zr_iln C 3 dJ7_fill_53178_6 rfl rfl rfl ?_
      refine zr_icmp_ge (tgt := 20) (K1 := none) (K2 := some ()) (r := ()) C dJ7_fill_53178_7 (by decide) rfl (if_neg (nI_ge hi2 hN)) (fun h => nomatch h) (fun _ => ?_)
      refine zr_aln C 0 dJ7_fill_53178_10 rfl rfl rfl ?_
      refine zr_iln C 2 dJ7_fill_53178_11 rfl rfl rfl ?_
      refine zr_iln C 1 dJ7_fill_53178_12 rfl rfl rfl ?_
      refine zr_iast (K := some ()) (r := ()) C q0 (List.getElem?_set_self hlt) dJ7_fill_53178_13 rfl ?_ rfl (fun _ => ?_)
      · have hin : zz_in (nI i) N = true := by
          simp only [zz_in, Bool.and_eq_true, Bool.not_eq_true', decide_eq_false_iff_not]
          exact ⟨nI_pos (by omega), by rw [nI_clamp (by omega)]; omega⟩
        simp [zz_gd, hin]
      rw [nI_clamp (show i < 2 ^ 31 by omega), List.set_set, zz_fillupI]
      refine zr_iinc (v := 1) (K := fun x => if x = nI (i + 1) then some () else none) (r := ()) C 2 [1, 2, 0, 3] dJ7_fill_53178_14 rfl (by decide) rfl (by decide) (fun x => [(0, .ref b), (1, .int v), (2, .int x), (3, .int (nI N))]) ?_ (fun _ => rfl) (fun x h => ?_)
      · simp [zz_let, nI_1]
      have hx : x = nI (i + 1) := by
        by_cases hc : x = nI (i + 1)
        · exact hc
        · simp [hc] at h
      subst hx
      refine zr_goto (tgt := 5) C dJ7_fill_53178_17 (by decide) ?_
      exact ih (i + 1) (by omega)
  show zz_ww X (0, 0) w 0 [(0, .ref b), (1, .int v)] []
  refine zr_ic (v := 0) C dJ7_fill_53178_0 (by decide) rfl ?_
  refine zr_isn (K := fun x => if x = 0 then some () else none) (r := ()) C [1, 2, 0] dJ7_fill_53178_1 rfl rfl (by decide) (fun x => [(0, .ref b), (1, .int v), (2, .int x)]) rfl (fun _ => rfl) (fun x0 h0 => ?_)
  have hx0 : x0 = nI 0 := by
    by_cases hc : x0 = 0
    · rw [hc]; rfl
    · simp [hc] at h0
  subst hx0
  refine zr_aln C 0 dJ7_fill_53178_2 rfl rfl rfl ?_
  refine zr_alen (t0 := 0) C q0 he rfl dJ7_fill_53178_3 rfl ?_
  refine zr_isn (K := fun x => if x = nI N then some () else none) (r := ()) C [1, 2, 3, 0] dJ7_fill_53178_4 rfl rfl (by decide) (fun x => [(0, .ref b), (1, .int v), (2, .int (nI 0)), (3, .int x)]) (if_pos rfl) (fun _ => rfl) (fun x h => ?_)
  have hx : x = nI N := by
    by_cases hc : x = nI N
    · exact hc
    · simp [hc] at h
  subst hx
  have e0 : w.set q0 (b, .inl (k 0, N, .inl (fun j => if j < 0 then v else f j))) = w := by
    have : (fun j : Nat => if j < 0 then v else f j) = f := by funext j; simp
    rw [this]
    apply List.ext_getElem?
    intro i
    by_cases hi : i = q0
    · subst hi; rw [List.getElem?_set_self hlt, he]
    · rw [List.getElem?_set_ne (Ne.symm hi)]
  have := loop N 0 (by omega)
  rw [e0] at this
  exact this
theorem zd_J7_fill_53178 : yJ7_fill_53178.cls ≠ "java/lang/invoke/MethodHandle" ∧ yJ7_fill_53178.cls ≠ "java/lang/invoke/VarHandle" ∧ (parseMethodDescriptor yJ7_fill_53178.desc).map (fun d => d.parameters.length) = some 2 := by decide +kernel
theorem zz_fillupJ {f : Nat → Int64} {v : Int64} {i : Nat} : vp_updL (fun j => if j < i then v else f j) i v = (fun j => if j < i + 1 then v else f j) := by
  funext j
  unfold vp_updL
  by_cases h : j = i
  · subst h; simp
  · by_cases h2 : j < i
    · simp [h, h2, Nat.lt_succ_of_lt h2]
    · have h3 : ¬ j < i + 1 := by omega
      simp [h, h2, h3]
set_option maxHeartbeats 4000000 in
theorem zc_fillJ (l : Launch) (D : va_G) (k : Nat → ClassId) {w : va_W} {q0 b N : Nat} {f : Nat → Int64} (v : Int64) (he : w[q0]? = some (b, .inl (k 1, N, .inr (.inl f)))) (hN : N < 2147483648) : zz_MV (σ := va_W) l yJ7_fill_d0a16 wsJ7_fill_d0a16 ({ frames := 0, cells := 0, slots := 0, locals := 0 } : Room) D k id [.ref b, .long v] w (w.set q0 (b, .inl (k 1, N, .inr (.inl (fun j => if j < N then v else f j))))) := by
  refine zz_metV (cc := cJ7_fill_d0a16) (nL := 5) (by decide) rfl (Nat.le_of_ble_eq_true rfl) ?_
  intro X C hret
  have C : zz_ok X cJ7_fill_d0a16 RJ7 wsJ7_fill_d0a16 k 5 ({ frames := 0, cells := 0, slots := 0, locals := 0 } : Room) := C
  have hlt : q0 < w.length := (List.getElem?_eq_some_iff.mp he).1
  have loop : ∀ m i : Nat, i + m = N → zz_ww X (0, 0) (w.set q0 (b, .inl (k 1, N, .inr (.inl (fun j => if j < i then v else f j))))) 6 [(0, .ref b), (1, .long v), (3, .int (nI i)), (4, .int (nI N))] [] := by
    intro m
    induction m with
    | zero =>
      intro i hi
      have hi : i = N := by omega
      subst hi
      refine zr_iln C 2 dJ7_fill_d0a16_6 rfl rfl rfl ?_
      refine zr_il C 3 dJ7_fill_d0a16_7 rfl rfl ?_
      refine zr_icmp_ge (tgt := 22) (K1 := some ()) (K2 := none) (r := ()) C dJ7_fill_d0a16_9 (by decide) rfl (if_pos (nI_le (Nat.le_refl _) hN)) (fun _ => ?_) (fun h => nomatch h)
      exact hret _ 22 _ (0, 0) (Nat.zero_le _) (Nat.zero_le _) dJ7_fill_d0a16_22 rfl
    | succ m ih =>
      intro i hi
      have hi2 : i < N := by omega
      refine zr_iln C 2 dJ7_fill_d0a16_6 rfl rfl rfl ?_
      refine zr_il C 3 dJ7_fill_d0a16_7 rfl rfl ?_
      refine zr_icmp_ge (tgt := 22) (K1 := none) (K2 := some ()) (r := ()) C dJ7_fill_d0a16_9 (by decide) rfl (if_neg (nI_ge hi2 hN)) (fun h => nomatch h) (fun _ => ?_)
      refine zr_aln C 0 dJ7_fill_d0a16_12 rfl rfl rfl ?_
      refine zr_iln C 2 dJ7_fill_d0a16_13 rfl rfl rfl ?_
      refine zr_lln C 1 dJ7_fill_d0a16_14 rfl rfl rfl ?_
      refine zr_last (K := some ()) (r := ()) C q0 (List.getElem?_set_self hlt) dJ7_fill_d0a16_15 rfl ?_ rfl (fun _ => ?_)
      · have hin : zz_in (nI i) N = true := by
          simp only [zz_in, Bool.and_eq_true, Bool.not_eq_true', decide_eq_false_iff_not]
          exact ⟨nI_pos (by omega), by rw [nI_clamp (by omega)]; omega⟩
        simp [zz_gd, hin]
      rw [nI_clamp (show i < 2 ^ 31 by omega), List.set_set, zz_fillupJ]
      refine zr_iinc (v := 1) (K := fun x => if x = nI (i + 1) then some () else none) (r := ()) C 2 [1, 2, 0, 3] dJ7_fill_d0a16_16 rfl (by decide) rfl (by decide) (fun x => [(0, .ref b), (1, .long v), (3, .int x), (4, .int (nI N))]) ?_ (fun _ => rfl) (fun x h => ?_)
      · simp [zz_let, nI_1]
      have hx : x = nI (i + 1) := by
        by_cases hc : x = nI (i + 1)
        · exact hc
        · simp [hc] at h
      subst hx
      refine zr_goto (tgt := 6) C dJ7_fill_d0a16_19 (by decide) ?_
      exact ih (i + 1) (by omega)
  show zz_ww X (0, 0) w 0 [(0, .ref b), (1, .long v)] []
  refine zr_ic (v := 0) C dJ7_fill_d0a16_0 (by decide) rfl ?_
  refine zr_isn (K := fun x => if x = 0 then some () else none) (r := ()) C [1, 2, 0] dJ7_fill_d0a16_1 rfl rfl (by decide) (fun x => [(0, .ref b), (1, .long v), (3, .int x)]) rfl (fun _ => rfl) (fun x0 h0 => ?_)
  have hx0 : x0 = nI 0 := by
    by_cases hc : x0 = 0
    · rw [hc]; rfl
    · simp [hc] at h0
  subst hx0
  refine zr_aln C 0 dJ7_fill_d0a16_2 rfl rfl rfl ?_
  refine zr_alen (t0 := 1) C q0 he rfl dJ7_fill_d0a16_3 rfl ?_
  refine zr_is (K := fun x => if x = nI N then some () else none) (r := ()) C [1, 2, 3, 0] dJ7_fill_d0a16_4 rfl (by decide) (fun x => [(0, .ref b), (1, .long v), (3, .int (nI 0)), (4, .int x)]) (if_pos rfl) (fun _ => rfl) (fun x h => ?_)
  have hx : x = nI N := by
    by_cases hc : x = nI N
    · exact hc
    · simp [hc] at h
  subst hx
  have e0 : w.set q0 (b, .inl (k 1, N, .inr (.inl (fun j => if j < 0 then v else f j)))) = w := by
    have : (fun j : Nat => if j < 0 then v else f j) = f := by funext j; simp
    rw [this]
    apply List.ext_getElem?
    intro i
    by_cases hi : i = q0
    · subst hi; rw [List.getElem?_set_self hlt, he]
    · rw [List.getElem?_set_ne (Ne.symm hi)]
  have := loop N 0 (by omega)
  rw [e0] at this
  exact this
theorem zd_J7_fill_d0a16 : yJ7_fill_d0a16.cls ≠ "java/lang/invoke/MethodHandle" ∧ yJ7_fill_d0a16.cls ≠ "java/lang/invoke/VarHandle" ∧ (parseMethodDescriptor yJ7_fill_d0a16.desc).map (fun d => d.parameters.length) = some 2 := by decide +kernel
theorem zr_fillI_20 {X : zz_X} {cc : ByteArray} {own : String} {Ts : List Cond} {k : Nat → ClassId} {nL : Nat} {R : Room} {n : Nat × Nat} {pc pc' : Nat} {lv : List (Nat × Value)} {st : List Value} {a : Nat → Nat} {z : Nat} {S : zz_St} {α : Type} {r : α} {v : Int32} {index : Nat} {K : zz_St → Option α} (C : zz_ok X cc own Ts k nL R) (hG : GoodIn Ts (va_wsS own index yJ7_fill_53178 wsJ7_fill_53178)) (hR : 0 + 1 ≤ R.frames ∧ 8 + (4 + 11) + 0 ≤ R.locals) (hrc : n.1 + 0 ≤ R.cells ∧ n.2 + 0 ≤ R.slots) (hst : (st.map fun v => v.category).sum ≤ 8) (hd : decode cc pc = .ok (.invokestatic index, 3)) (hp : pc + 3 = pc') (hq : zz_gd (decide (z < 2147483648)) (zz_let (zz_sa S 20 (fun j => if j < z then v else zz_ga S 20 j)) K) = some r) (h : ∀ u : zz_St, K u = some r → zz_ww X n (zz_wC a k z u) pc' lv st) : zz_ww X n (zz_wC a k z S) pc lv (.int v :: .ref (a 20) :: st) := by
  obtain ⟨hz, hq⟩ := zz_gd_some hq
  have hz : z < 2147483648 := by simpa using hz
  exact zr_cSv (wf := id) (S := zz_wC a k z S) (st := st) (F := some ((zz_wC a k z S).set 20 (a 20, .inl (k 0, z, .inl (fun j => if j < z then v else zz_ga S 20 j))))) (K := fun _ => some r) (r := r) C (fun l D u hu => by cases hu; exact zc_fillI l D k v zk_C20 hz) hG rfl zd_J7_fill_53178 hR hrc rfl hst rfl hd hp rfl rfl (fun u hu _ => by
    cases hu
    exact h _ hq)
theorem zr_fillJ_17 {X : zz_X} {cc : ByteArray} {own : String} {Ts : List Cond} {k : Nat → ClassId} {nL : Nat} {R : Room} {n : Nat × Nat} {pc pc' : Nat} {lv : List (Nat × Value)} {st : List Value} {a : Nat → Nat} {z : Nat} {S : zz_St} {α : Type} {r : α} {v : Int64} {index : Nat} {K : zz_St → Option α} (C : zz_ok X cc own Ts k nL R) (hG : GoodIn Ts (va_wsS own index yJ7_fill_d0a16 wsJ7_fill_d0a16)) (hR : 0 + 1 ≤ R.frames ∧ 8 + (5 + 11) + 0 ≤ R.locals) (hrc : n.1 + 0 ≤ R.cells ∧ n.2 + 0 ≤ R.slots) (hst : (st.map fun v => v.category).sum ≤ 8) (hd : decode cc pc = .ok (.invokestatic index, 3)) (hp : pc + 3 = pc') (hq : zz_gd (decide (z < 2147483648)) (zz_let (zz_sA S 17 (fun j => if j < z then v else zz_gA S 17 j)) K) = some r) (h : ∀ u : zz_St, K u = some r → zz_ww X n (zz_wC a k z u) pc' lv st) : zz_ww X n (zz_wC a k z S) pc lv (.long v :: .ref (a 17) :: st) := by
  obtain ⟨hz, hq⟩ := zz_gd_some hq
  have hz : z < 2147483648 := by simpa using hz
  exact zr_cSv (wf := id) (S := zz_wC a k z S) (st := st) (F := some ((zz_wC a k z S).set 17 (a 17, .inl (k 1, z, .inr (.inl (fun j => if j < z then v else zz_gA S 17 j)))))) (K := fun _ => some r) (r := r) C (fun l D u hu => by cases hu; exact zc_fillJ l D k v zk_C17 hz) hG rfl zd_J7_fill_d0a16 hR hrc rfl hst rfl hd hp rfl rfl (fun u hu _ => by
    cases hu
    exact h _ hq)

/-! THE CLAIM OUT OF ONE WALK OF THE LAW'S BODY. Your part is whole_start (and what it stands on); all else here is the same for every law, but numbers. -/
def R_law : String := "GridRipUpLaw"
def lw_P (b : Addr) (xs : List Int32) (args : Array Value) (s : State) : Prop := args = #[.ref b] ∧ s.IntsAt b xs ∧ xs.length ≤ 2564 ∧ (Jvm.Cond.and given_1 narrow_1).before args s = true
def lw_Q (_ : Array Value) (s : State) (o : Outcome) (t : State) : Prop := o = .returned (some (.int 1)) ∧ Framed s o t [] 601024 7292999
def lw_Z (below : List Frame) (a : Array Value) (s : State) : State → Prop := fun t => ∃ o, t.status = .running ∧ Ended t below o ∧ lw_Q a s o t
/-- the law's own end, with 1 on the stack, nothing written that was there before, its room as the claim has it -/
theorem lw_ret {p : Program} {l : Launch} {e : Env} {s : State} {m : MethodId} {below : List Frame} {meth : Method} {c : Code} {b : Nat} (hx : p.tables.exec = Jvm.exec) (hb : c.code = code) (hr : meth.sig.returnType = ret) (hlocks : meth.locks = false) {pc : Nat} {H : Heap} {ls : Array Slot} (hdg : decode code pc = .ok (.ireturn, 1)) : W p l e room_1 s m #[Value.ref b] below meth c H [] 601024 7292999 (lw_Z below #[Value.ref b] s) (F0 m pc ls [.int 1]) := by
  intro T hT X
  obtain ⟨fs, hret, hrun, hended, hW, hframe⟩ := X.leave (v := some (.int 1)) (hlocks := hlocks) (fun h => by rw [hr] at h; cases h)
  have hmeth' : T.vm.method? m = some meth := X.method'
  refine ⟨T.setFrames fs, ?_, .returned (some (.int 1)), hrun, hended, rfl, ⟨_, rfl⟩, hW, hframe⟩
  jvm_step X.here [X.here.top, hx, hb, hdg, hmeth', hr, ret, narrow_b1]
  (try refine ⟨rfl, ?_⟩); (try refine ⟨rfl, ?_⟩)
  first | (intro acts; rw [hret _ acts rfl rfl rfl]) | rw [hret _ _ rfl rfl rfl]
  exact Steps.refl _
/-- what holds at the law's entry: the machine, the code, the tables' words (any of lw_tbl by 'hts w (by decide +kernel)'), the script of L ints xs at the cell b, what the Statement gives of the start (any of its parts by flat_of_before) -/
def lw_At (p : Program) (s : State) (m : MethodId) (meth : Method) (c : Code) (b L : Nat) (xs : Nat → Int32) : Prop :=
  p.tables.exec = Jvm.exec ∧ c.code = code ∧ meth.sig.returnType = ret ∧ c.maxLocals = 8 ∧ s.vm.findClass R_law = some m.cls ∧ (∀ w ∈ lw_tbl, w.before #[Value.ref b] s = true) ∧ va_X b L xs s s.heap ∧ b < s.heap.size ∧ meth.locks = false ∧ (Jvm.Cond.and given_1 narrow_1).before #[Value.ref b] s = true

theorem zz_holdn (p M : Int32) (Mn : Nat) (hM : M = nI Mn) (h1 : 1 ≤ Mn) (h2 : Mn ≤ 1000) : ∃ wn : Nat, 1 ≤ wn ∧ wn ≤ Mn ∧ (if (1 : Int32) < (if M < p then M else p) then (if M < p then M else p) else (1 : Int32)) = nI wn ∧ (if (1 : Int32) ≤ p then (if p ≤ M then p else M) else (1 : Int32)) = nI wn := by
  subst hM
  have i1 : (1 : Int32).toInt = 1 := by decide
  have iM : (nI Mn).toInt = (Mn : Int) := nI_toInt (by omega)
  have lt : ∀ a b : Int32, a < b ↔ a.toInt < b.toInt := fun a b => Int32.lt_iff_toInt_lt
  have le : ∀ a b : Int32, a ≤ b ↔ a.toInt ≤ b.toInt := fun a b => Int32.le_iff_toInt_le
  by_cases c1 : p.toInt < 1
  · refine ⟨1, Nat.le_refl _, h1, ?_, ?_⟩
    · have e1 : ¬ nI Mn < p := by rw [lt, iM]; omega
      have e2 : ¬ (1 : Int32) < p := by rw [lt, i1]; omega
      rw [if_neg e1, if_neg e2]; rfl
    · have e1 : ¬ (1 : Int32) ≤ p := by rw [le, i1]; omega
      rw [if_neg e1]; rfl
  · by_cases c2 : p.toInt ≤ Mn
    · obtain ⟨j, hj, rfl⟩ : ∃ j : Nat, j ≤ Mn ∧ p = nI j := nI_of2 iM (by rw [lt]; simp; omega) (by rw [le, iM]; exact c2)
      have ij : (nI j).toInt = (j : Int) := nI_toInt (by omega)
      rw [ij] at c1 c2
      refine ⟨j, by omega, hj, ?_, ?_⟩
      · have e1 : ¬ nI Mn < nI j := by rw [lt, iM, ij]; omega
        rw [if_neg e1]
        by_cases c3 : (1 : Int32) < nI j
        · rw [if_pos c3]
        · rw [if_neg c3]
          have : j = 1 := by rw [lt, i1, ij] at c3; omega
          subst this; rfl
      · have e1 : (1 : Int32) ≤ nI j := by rw [le, i1, ij]; omega
        have e2 : nI j ≤ nI Mn := by rw [le, iM, ij]; omega
        rw [if_pos e1, if_pos e2]
    · refine ⟨Mn, h1, Nat.le_refl _, ?_, ?_⟩
      · have e1 : nI Mn < p := by rw [lt, iM]; omega
        rw [if_pos e1]
        by_cases c3 : (1 : Int32) < nI Mn
        · rw [if_pos c3]
        · rw [if_neg c3]
          have : Mn = 1 := by rw [lt, i1, iM] at c3; omega
          subst this; rfl
      · have e1 : (1 : Int32) ≤ p := by rw [le, i1]; omega
        have e2 : ¬ p ≤ nI Mn := by rw [le, iM]; omega
        rw [if_pos e1, if_neg e2]
def zz_T0 (wn hn ln : Nat) (seed : Int64) : zz_LS := (zz_C0 (nI wn) (nI hn) (nI ln) (nI (wn * hn)) (wn * hn * ln) seed, zz_M0 (nI wn) (nI hn) (nI ln) seed, fun _ => 0)
/-- WHAT IS LEFT: the pure programs agree -/
def zz_pure : Prop := ∀ (L : Nat) (xs : Nat → Int32) (wn hn ln : Nat) (seed : Int64), L ≤ 2564 → 1 ≤ wn → wn ≤ 16 → 1 ≤ hn → hn ≤ 16 → 1 ≤ ln → ln ≤ 4 → zf_law_loop 5000 (wn * hn * ln) L xs 5000 4 (zz_T0 wn hn ln seed) = some 1
theorem zz_insX0 : Cond.instantiable RX0 4 ∈ lw_tbl := by decide +kernel
theorem zz_insX1 : Cond.instantiable RX1 10 ∈ lw_tbl := by decide +kernel
theorem zz_insX2 : Cond.instantiable RX2 6 ∈ lw_tbl := by decide +kernel
theorem zz_insX3 : Cond.instantiable RX3 3 ∈ lw_tbl := by decide +kernel
theorem zz_insX4 : Cond.instantiable RX4 5 ∈ lw_tbl := by decide +kernel
theorem zz_insX5 : Cond.instantiable RX5 2 ∈ lw_tbl := by decide +kernel
theorem zz_insX6 : Cond.instantiable RX6 9 ∈ lw_tbl := by decide +kernel
theorem zz_insX7 : Cond.instantiable RX7 25 ∈ lw_tbl := by decide +kernel
theorem zz_str105 : Cond.stringRef RX6 105 "no such layer" ∈ lw_tbl := by decide +kernel
theorem zz_str116 : Cond.stringRef RX6 116 "a cost is not 0 .. 50" ∈ lw_tbl := by decide +kernel
theorem zz_str123 : Cond.stringRef RX6 123 "rounds are not 1 .. 20" ∈ lw_tbl := by decide +kernel
theorem zz_str146 : Cond.stringRef RX6 146 "no such piece" ∈ lw_tbl := by decide +kernel
theorem zz_str181 : Cond.stringRef RX6 181 "no such net" ∈ lw_tbl := by decide +kernel
theorem zz_str187 : Cond.stringRef RX6 187 "no such cell" ∈ lw_tbl := by decide +kernel
theorem zz_t1 : Cond.arrayClass .int ∈ lw_tbl := by decide +kernel
theorem zz_t2 : Cond.arrayClass .long ∈ lw_tbl := by decide +kernel
theorem zz_t3 : Cond.arrayClass .boolean ∈ lw_tbl := by decide +kernel
theorem zz_t4 : Cond.arrayOver (.object "GridRipUp$Net") ∈ lw_tbl := by decide +kernel
theorem zz_t5 : Cond.methodLinkNest RX6 20 yX3_init "GridRipUp" ∈ lw_tbl := by decide +kernel
theorem zz_t6 : Cond.methodLinkNest RX6 53 yX2_init "GridRipUp" ∈ lw_tbl := by decide +kernel
theorem zz_t7 : Cond.laysStatic Bundle.tN "UNASSIGNED_STACK" Bundle.steD ∈ lw_tbl := by decide +kernel
theorem zz_t8 : Cond.laysStatic Bundle.tN "SUPPRESSED_SENTINEL" Bundle.listD ∈ lw_tbl := by decide +kernel
theorem zz_t9 : Cond.initialized Bundle.tN ∈ lw_tbl := by decide +kernel
theorem zz_t10 : ∀ w ∈ zz_nws, w ∈ lw_tbl := by decide +kernel
theorem zz_l1 : Cond.arrayClass .long ∈ wsL_law := by decide +kernel
theorem zz_l2 : Cond.classLink RL 8 RX6 ∈ wsL_law := by decide +kernel
theorem zz_l3 : Cond.instantiable RX6 9 ∈ wsL_law := by decide +kernel
theorem zz_l4 : Cond.initialized RX6 ∈ wsL_law := by decide +kernel
theorem zz_l5 : Cond.classLink RL 66 RX7 ∈ wsL_law := by decide +kernel
theorem zz_l6 : Cond.instantiable RX7 25 ∈ wsL_law := by decide +kernel
theorem zz_l7 : Cond.initialized RX7 ∈ wsL_law := by decide +kernel
theorem zz_l8 : Cond.methodLink RL 63 yX6_init ∈ wsL_law := by decide +kernel
theorem zz_l9 : Cond.instanceMethod yX6_init ∈ wsL_law := by decide +kernel
theorem zz_l10 : Cond.methodLink RL 68 yX7_init ∈ wsL_law := by decide +kernel
theorem zz_l11 : Cond.instanceMethod yX7_init ∈ wsL_law := by decide +kernel
set_option maxHeartbeats 4000000 in
set_option maxRecDepth 100000 in
theorem zz_whole (HP : zz_pure) {p : Program} {e : Env} {s : State} {m : MethodId} {below : List Frame} {meth : Method} {c : Code} (l : Launch) (hst : l.stackTraces = false) {b L : Nat} {xs : Nat → Int32} (hL : L ≤ 2564) (C0 : lw_At p s m meth c b L xs) : W p l e room_1 s m #[Value.ref b] below meth c s.heap [] 0 0 (lw_Z below #[Value.ref b] s) (entryFrame m ([Value.ref b] : List Value).toArray 8) := by
  obtain ⟨hx, hb, hr, hml, hown, hts, hX, hbl, hlocks, hgv⟩ := id C0
  have hgs := flat_of_before _ hgv
  obtain ⟨c0, i0, k0⟩ := u_known (C := RX0) (T := TX0) (N := 4) (n := 4) hts inX0 (hts _ zz_insX0)
  obtain ⟨c1, i1, k1⟩ := u_known (C := RX1) (T := TX1) (N := 10) (n := 10) hts inX1 (hts _ zz_insX1)
  obtain ⟨c2, i2, k2⟩ := u_known (C := RX2) (T := TX2) (N := 6) (n := 6) hts inX2 (hts _ zz_insX2)
  obtain ⟨c3, i3, k3⟩ := u_known (C := RX3) (T := TX3) (N := 3) (n := 3) hts inX3 (hts _ zz_insX3)
  obtain ⟨c4, i4, k4⟩ := u_known (C := RX4) (T := TX4) (N := 5) (n := 5) hts inX4 (hts _ zz_insX4)
  obtain ⟨c5, i5, k5⟩ := u_known (C := RX5) (T := TX5) (N := 2) (n := 2) hts inX5 (hts _ zz_insX5)
  obtain ⟨c6, i6, k6⟩ := u_known (C := RX6) (T := TX6) (N := 9) (n := 9) hts inX6 (hts _ zz_insX6)
  obtain ⟨c7, i7, k7⟩ := u_known (C := RX7) (T := TX7) (N := 25) (n := 25) hts inX7 (hts _ zz_insX7)
  obtain ⟨dC, dI, hKc⟩ : ∃ (dC : Nat → ClassId) (dI : Nat → Nat → Nat), ∀ (k : Nat) (q : vw_C), zz_cl[k]? = some q → u_Kn s q.1 q.2.1 q.2.2 (dC k) (dI k) := by
    refine ⟨fun k => [c0, c1, c2, c3, c4, c5, c6, c7].getD k 0, fun k => [i0, i1, i2, i3, i4, i5, i6, i7].getD k i0, ?_⟩
    intro k q hq
    match k, hq with
    | 0, hq => cases hq; exact k0
    | 1, hq => cases hq; exact k1
    | 2, hq => cases hq; exact k2
    | 3, hq => cases hq; exact k3
    | 4, hq => cases hq; exact k4
    | 5, hq => cases hq; exact k5
    | 6, hq => cases hq; exact k6
    | 7, hq => cases hq; exact k7
    | k + 8, hq => simp [zz_cl] at hq
  obtain ⟨kk, hKa⟩ : ∃ kk : Nat → ClassId, va_K (dC, dI) zz_cl (zz_tys kk) s := by
    obtain ⟨a1, b1, d1, f1, g1, h1⟩ := Cond.arrayClass_spec (hts _ zz_t1)
    obtain ⟨a2, b2, d2, f2, g2, h2⟩ := Cond.arrayClass_spec (hts _ zz_t2)
    obtain ⟨a3, b3, d3, f3, g3, h3⟩ := Cond.arrayClass_spec (hts _ zz_t3)
    obtain ⟨comp, a4, b4, f4, -, g4, h4, n4⟩ := Cond.arrayOver_spec (hts _ zz_t4)
    refine ⟨fun k => [a1, a2, a3, a4].getD k 0, hKc, ?_⟩
    intro k q hq
    match k, hq with
    | 0, hq => cases hq; exact ⟨fun n z => ⟨fun k h => (by cases h), b1, g1, d1, h1⟩, f1⟩
    | 1, hq => cases hq; exact ⟨fun n z => ⟨fun k h => (by cases h), b2, g2, d2, h2⟩, f2⟩
    | 2, hq => cases hq; exact ⟨fun n z => ⟨fun k h => (by cases h), b3, g3, d3, h3⟩, f3⟩
    | 3, hq => cases hq; exact ⟨fun n z => ⟨fun k h => (by cases h), b4, g4, comp, h4⟩, b4, comp, g4, h4, f4, n4⟩
    | k + 4, hq => simp [zz_tys] at hq
  have hA : ∀ q : Nat, s.heap.size ≤ q → (fun q : Nat => s.heap.size ≤ q) q := fun _ h => h
  have hbA : ¬ (fun q : Nat => s.heap.size ≤ q) b := Nat.not_le.mpr hbl
  have hS0 : va_S (fun q : Nat => s.heap.size ≤ q) s.heap s.heap [] := va_S.rf
  have hP0 : va_P (dC, dI) zz_cl [] s.heap := fun k q h => by simp at h
  have hD0 : va_D (fun q : Nat => s.heap.size ≤ q) [] := ⟨fun i j p q h => by simp at h, fun k q h => by simp at h⟩
  have hl := lv_entry ([.ref b]) (n := 8) (Nat.le_of_ble_eq_true rfl)
  rw [lg_entry_eq]
  have hEx : ∀ U : State, s.WarmedH U.vm → zz_ExC U := fun U hW => ⟨va_Nw.warmM hW (va_Nw.of rfl (hts _ zz_t5)), va_Nw.warmM hW (va_Nw.of rfl (hts _ zz_t6)), va_AO.moved hW.alike (va_AO.of (hts _ zz_t4))⟩
  have hEb : ∀ (U : State) (g : JFrame) (mk : MethodId) (a : Array Value), zz_ExC U → zz_ExC (U.calling g mk a) := fun U g mk a h => ⟨va_Nw.same rfl (u := U) rfl h.1, va_Nw.same rfl (u := U) rfl h.2.1, va_AO.moved (u := U) (Vm.Alike.refl U.vm) h.2.2⟩
  have hTx : zz_Tx (fun q : Nat => s.heap.size ≤ q) s s.heap := by
    refine ⟨vx_Zqof (hts _ zz_t7) (hts _ zz_t9) (hgs _ (by decide +kernel)) (fun a h => Nat.not_le.mpr h), vx_Zqof (hts _ zz_t8) (hts _ zz_t9) (hgs _ (by decide +kernel)) (fun a h => Nat.not_le.mpr h), ?_, fun w hw => va_Nw.of (by simp only [zz_nws, List.mem_cons, List.not_mem_nil, or_false] at hw; rcases hw with rfl | rfl | rfl | rfl | rfl <;> rfl) (hts _ (zz_t10 w hw)), va_Nc.of (hgs _ (by decide +kernel))⟩
    have one : ∀ (i : Nat) (t : String), Cond.stringRef RX6 i t ∈ lw_tbl → ∃ sa, vk_R RX6 i t sa s := by
      intro i t ht
      obtain ⟨k, cf, j, a, -, -, -, -, -, hev⟩ := Cond.stringRef_spec k6.2.1 (hts _ ht)
      exact ⟨a, vk_R.of (hts _ ht) hev⟩
    intro q hq
    simp only [zz_strs, List.mem_cons, List.not_mem_nil, or_false] at hq
    rcases hq with rfl | rfl | rfl | rfl | rfl | rfl
    · exact one _ _ zz_str105
    · exact one _ _ zz_str116
    · exact one _ _ zz_str123
    · exact one _ _ zz_str146
    · exact one _ _ zz_str181
    · exact one _ _ zz_str187
  have C : zz_ok (p, l, e, room_1, s, m, #[Value.ref b], below, meth, c, (dC, dI), (fun q : Nat => s.heap.size ≤ q), 8, lw_Z below #[Value.ref b] s) cL_law RL wsL_law kk 8 room_1 := ⟨hx, hb, hml, hown, fun w hw => hts w (wsL_law_in w hw), hKa, hA, hlocks, rfl, rfl⟩
  have TX : zz_okX (p, l, e, room_1, s, m, #[Value.ref b], below, meth, c, (dC, dI), (fun q : Nat => s.heap.size ≤ q), 8, lw_Z below #[Value.ref b] s) := ⟨hst, hTx⟩
  have SX : zz_okS (p, l, e, room_1, s, m, #[Value.ref b], below, meth, c, (dC, dI), (fun q : Nat => s.heap.size ≤ q), 8, lw_Z below #[Value.ref b] s) b L xs := ⟨hX, hbl, hbA⟩
  have EX : ∀ U : State, (p, l, e, room_1, s, m, #[Value.ref b], below, meth, c, ((dC, dI) : va_G), (fun q : Nat => s.heap.size ≤ q), 8, lw_Z below #[Value.ref b] s).2.2.2.2.1.WarmedH U.vm → zz_ExC U := hEx
  have hret : ∀ (w : va_W) (v : Int32) (pc : Nat) (lv : List (Nat × Value)) (n : Nat × Nat), n.1 ≤ 601024 → n.2 ≤ 7292999 → decode cL_law pc = .ok (.ireturn, 1) → some v = some (1 : Int32) → zz_ww (p, l, e, room_1, s, m, #[Value.ref b], below, meth, c, (dC, dI), (fun q : Nat => s.heap.size ≤ q), 8, lw_Z below #[Value.ref b] s) n w pc lv [.int v] := by
    intro w v pc lv n h1 h2 hd hv
    cases hv
    intro H locs ls hP hD hS hl
    exact va_forget (fun q hq => hS.2.2 q hq) (W.widen h1 h2 (lw_ret hx hb hr hlocks hd))
  suffices key : zz_ww (p, l, e, room_1, s, m, #[Value.ref b], below, meth, c, (dC, dI), (fun q : Nat => s.heap.size ≤ q), 8, lw_Z below #[Value.ref b] s) (0, 0) [] 0 [(0, .ref b)] [] from key s.heap [] _ hP0 hD0 hS0 hl
  generalize ((p, l, e, room_1, s, m, #[Value.ref b], below, meth, c, (dC, dI), (fun q : Nat => s.heap.size ≤ q), 8, lw_Z below #[Value.ref b] s) : zz_X) = X at C TX SX EX hret ⊢
  obtain ⟨wn, w1, w2, ec1, em1⟩ := zz_holdn (zz_cellv L xs 0) 16 16 (by decide) (by decide) (by decide)
  obtain ⟨hn, h1, h2, ec2, em2⟩ := zz_holdn (zz_cellv L xs 1) 16 16 (by decide) (by decide) (by decide)
  obtain ⟨ln, l1, l2, ec3, em3⟩ := zz_holdn (zz_cellv L xs 2) 4 4 (by decide) (by decide) (by decide)
  have hz : wn * hn * ln ≤ 1024 := Nat.le_trans (Nat.mul_le_mul (Nat.mul_le_mul w2 h2) l2) (by decide)
  refine zr_new (Cn := RX6) (T := TX6) (N := 9) (ci := 6) (fs := [.null, .null, .null, .null, .null, .null, .int 0, .int 0, .long 0]) C inlX6 tyX6 tyX6_ok zz_l2 zz_l3 zz_l4 rfl (fun j hj => by rcases (show j = 0 ∨ j = 1 ∨ j = 2 ∨ j = 3 ∨ j = 4 ∨ j = 5 ∨ j = 6 ∨ j = 7 ∨ j = 8 by omega) with rfl | rfl | rfl | rfl | rfl | rfl | rfl | rfl | rfl <;> rfl) ⟨by decide, by decide⟩ dL_law_0 rfl rfl (fun q0 => ?_)
  refine zr_dup C dL_law_3 rfl rfl ?_
  refine zr_aln C 0 dL_law_4 rfl rfl rfl ?_
  refine zr_ic (v := nI 0) C dL_law_5 (by decide) rfl ?_
  refine zr_cell C SX (by decide) hL gL_law_L_cell ⟨by decide, by decide⟩ ⟨by decide, by decide⟩ (Nat.le_of_ble_eq_true rfl) dL_law_6 rfl ?_
  refine zr_aln C 0 dL_law_9 rfl rfl rfl ?_
  refine zr_ic (v := nI 1) C dL_law_10 (by decide) rfl ?_
  refine zr_cell C SX (by decide) hL gL_law_L_cell ⟨by decide, by decide⟩ ⟨by decide, by decide⟩ (Nat.le_of_ble_eq_true rfl) dL_law_11 rfl ?_
  refine zr_aln C 0 dL_law_14 rfl rfl rfl ?_
  refine zr_ic (v := nI 2) C dL_law_15 (by decide) rfl ?_
  refine zr_cell C SX (by decide) hL gL_law_L_cell ⟨by decide, by decide⟩ ⟨by decide, by decide⟩ (Nat.le_of_ble_eq_true rfl) dL_law_16 rfl ?_
  refine zr_aln C 0 dL_law_19 rfl rfl rfl ?_
  refine zr_ic (v := nI 3) C dL_law_20 (by decide) rfl ?_
  refine zr_cell C SX (by decide) hL gL_law_L_cell ⟨by decide, by decide⟩ ⟨by decide, by decide⟩ (Nat.le_of_ble_eq_true rfl) dL_law_21 rfl ?_
  refine zr_i2l C dL_law_24 rfl ?_
  refine zr_cI (wr := []) (wc := [(q0, .inr (6, [.null, .null, .null, .null, .null, .null, .int 0, .int 0, .long 0]))]) (st := [.ref q0]) C (fun l D => zc_X6_init l D kk q0 (zz_cellv L xs 3).toInt64 ec1 ec2 ec3 rfl rfl hz) hEb EX gL_law_X6_init rfl zz_l4 zz_l8 zz_l9 rfl zd_X6_init ⟨by decide, by decide⟩ ⟨by decide, by decide⟩ rfl (Nat.le_of_ble_eq_true rfl) rfl dL_law_25 rfl rfl ?_
  rintro u ⟨a, ha, rfl⟩
  subst ha
  refine zr_asn C [1, 0] dL_law_28 rfl rfl (by decide) rfl ?_
  refine zr_new (Cn := RX7) (T := TX7) (N := 25) (ci := 7) (fs := [.int 0, .int 0, .int 0, .int 0, .long 0, .int 0, .null, .null, .null, .null, .null, .null, .null, .null, .null, .null, .null, .null, .null, .null, .null, .int 0, .null, .null, .null]) C inlX7 tyX7 tyX7_ok zz_l5 zz_l6 zz_l7 rfl (fun j hj => by rcases (show j = 0 ∨ j = 1 ∨ j = 2 ∨ j = 3 ∨ j = 4 ∨ j = 5 ∨ j = 6 ∨ j = 7 ∨ j = 8 ∨ j = 9 ∨ j = 10 ∨ j = 11 ∨ j = 12 ∨ j = 13 ∨ j = 14 ∨ j = 15 ∨ j = 16 ∨ j = 17 ∨ j = 18 ∨ j = 19 ∨ j = 20 ∨ j = 21 ∨ j = 22 ∨ j = 23 ∨ j = 24 by omega) with rfl | rfl | rfl | rfl | rfl | rfl | rfl | rfl | rfl | rfl | rfl | rfl | rfl | rfl | rfl | rfl | rfl | rfl | rfl | rfl | rfl | rfl | rfl | rfl | rfl <;> rfl) ⟨by decide, by decide⟩ dL_law_29 rfl rfl (fun q1 => ?_)
  refine zr_dup C dL_law_32 rfl rfl ?_
  refine zr_aln C 0 dL_law_33 rfl rfl rfl ?_
  refine zr_ic (v := nI 0) C dL_law_34 (by decide) rfl ?_
  refine zr_cell C SX (by decide) hL gL_law_L_cell ⟨by decide, by decide⟩ ⟨by decide, by decide⟩ (Nat.le_of_ble_eq_true rfl) dL_law_35 rfl ?_
  refine zr_aln C 0 dL_law_38 rfl rfl rfl ?_
  refine zr_ic (v := nI 1) C dL_law_39 (by decide) rfl ?_
  refine zr_cell C SX (by decide) hL gL_law_L_cell ⟨by decide, by decide⟩ ⟨by decide, by decide⟩ (Nat.le_of_ble_eq_true rfl) dL_law_40 rfl ?_
  refine zr_aln C 0 dL_law_43 rfl rfl rfl ?_
  refine zr_ic (v := nI 2) C dL_law_44 (by decide) rfl ?_
  refine zr_cell C SX (by decide) hL gL_law_L_cell ⟨by decide, by decide⟩ ⟨by decide, by decide⟩ (Nat.le_of_ble_eq_true rfl) dL_law_45 rfl ?_
  refine zr_aln C 0 dL_law_48 rfl rfl rfl ?_
  refine zr_ic (v := nI 3) C dL_law_49 (by decide) rfl ?_
  refine zr_cell C SX (by decide) hL gL_law_L_cell ⟨by decide, by decide⟩ ⟨by decide, by decide⟩ (Nat.le_of_ble_eq_true rfl) dL_law_50 rfl ?_
  refine zr_i2l C dL_law_53 rfl ?_
  refine zr_cI (Ex := fun _ => True) (wr := [] ++ zz_wC a kk (wn * hn * ln) (zz_C0 (nI wn) (nI hn) (nI ln) (nI (wn * hn)) (wn * hn * ln) (zz_cellv L xs 3).toInt64)) (wc := [(q1, .inr (7, [.int 0, .int 0, .int 0, .int 0, .long 0, .int 0, .null, .null, .null, .null, .null, .null, .null, .null, .null, .null, .null, .null, .null, .null, .null, .int 0, .null, .null, .null]))]) (st := [.ref q1]) C (fun l D => zc_X7_init l D kk q1 (zz_cellv L xs 3).toInt64 em1 em2 em3) (fun _ _ _ _ h => h) (fun _ _ => trivial) gL_law_X7_init rfl zz_l7 zz_l10 zz_l11 rfl zd_X7_init ⟨by decide, by decide⟩ ⟨by decide, by decide⟩ rfl (Nat.le_of_ble_eq_true rfl) rfl dL_law_54 rfl rfl ?_
  rintro u ⟨b', hb', rfl⟩
  subst hb'
  refine zr_asn C [1, 2, 0] dL_law_57 rfl rfl (by decide) rfl ?_
  refine zr_ic (v := nI 1) C dL_law_58 (by decide) rfl ?_
  refine zr_newaJ C zz_l1 1 (N := 1) rfl (by decide) (by decide) ⟨by decide, by decide⟩ dL_law_59 rfl rfl (fun ob => ?_)
  refine zr_perm (w' := zz_wL a b' ob kk (wn * hn * ln) (zz_T0 wn hn ln (zz_cellv L xs 3).toInt64)) ?_ ?_
  · unfold zz_wL zz_T0
    rw [List.nil_append]
    exact List.perm_append_comm
  refine zr_asn C [1, 2, 3, 0] dL_law_61 rfl rfl (by decide) rfl ?_
  refine zr_ic (v := 4) C dL_law_62 (by decide) rfl ?_
  refine zr_is (K := fun x => if x = 4 then some () else none) (r := ()) C [1, 2, 3, 4, 0] dL_law_63 rfl (by decide) (fun x => [(0, .ref b), (1, .ref (a 0)), (2, .ref (b' 0)), (3, .ref ob), (4, .int x)]) (by unfold zz_let; exact if_pos rfl) (fun _ => rfl) (fun x hx4 => ?_)
  have hx4 : x = 4 := by
    by_cases hc : x = 4
    · exact hc
    · simp [hc] at hx4
  subst hx4
  have hpure := HP L xs wn hn ln (zz_cellv L xs 3).toInt64 hL w1 w2 h1 h2 l1 l2
  unfold zf_law_loop at hpure
  have := zz_fix2_Wn (fun k i T => k ≤ 5000 → zz_ww X (65 + 2 * (5000 - k), 29055 + 12 * (5000 - k)) (zz_wL a b' ob kk (wn * hn * ln) T) 65 [(0, .ref b), (1, .ref (a 0)), (2, .ref (b' 0)), (3, .ref ob), (4, .int i)] []) (fun k rc hrc i T h hk => by
    refine zc_law_turn 5000 C TX SX (nc := 65 + 2 * (5000 - (k + 1))) (ns := 29055 + 12 * (5000 - (k + 1))) (by omega) (by omega) (fun v T pc lv n => hret _ v pc lv n) rc (fun i T h => ?_) i T h
    have h9 := hrc i T h (by omega)
    rw [show 65 + 2 * (5000 - (k + 1)) + 2 = 65 + 2 * (5000 - k) by omega, show 29055 + 12 * (5000 - (k + 1)) + 12 = 29055 + 12 * (5000 - k) by omega]
    exact h9) 5000 4 _ hpure (Nat.le_refl _)
  exact this

set_option maxHeartbeats 4000000 in
theorem lw_walk (HP : zz_pure) (l : Launch) (hst : l.stackTraces = false) (b : Addr) (xs : List Int32) : MetFree l x (headSpec (Jvm.Cond.code x code maxLocals ret :: tables_1) room_1) (lw_P b xs) (fun _ _ _ _ _ => True) lw_Q := by
  refine MetFree.of_bodyS (code := code) (maxLocals := maxLocals) (ret := ret) (by decide) ?_ ?_
  · intro args s m h hn
    obtain ⟨meth, c, h1, h2, h3, h4, h5, h6, -, -⟩ := Cond.code_spec hn (atoms_spec (ws := Jvm.Cond.code x code maxLocals ret :: tables_1) h _ List.mem_cons_self)
    exact ⟨meth, c, h1, h2, h3, h4, h5, h6⟩
  · intro p e s m args below meth c s₁ B hml0 hP _
    obtain ⟨rfl, hx, hbd, hgv⟩ := hP
    obtain ⟨scr, harrAt, hlist, hof, hsmall⟩ := hx
    obtain ⟨hcb, hkn, -, -⟩ := State.arrayAt?_spec harrAt
    have hown : s.vm.findClass R_law = some m.cls := findClass_of_methodNamed B.named
    have hts0 : ∀ c ∈ (Jvm.Cond.code x code maxLocals ret :: tables_1), c.before #[Value.ref b] s = true := atoms_spec (ws := Jvm.Cond.code x code maxLocals ret :: tables_1) B.pre
    have hts : ∀ w ∈ lw_tbl, w.before #[Value.ref b] s = true := k2_hts_sels lw_privs (fun w hw => hts0 w (List.mem_cons_of_mem _ hw)) lw_privs_ok
    have hml : c.maxLocals = 8 := B.maxLocals_eq (hts0 _ List.mem_cons_self)
    have X₀ : Stand p l e room_1 s m #[Value.ref b] below meth c s₁ [] 0 0 := Stand.of_body B
    have hh0 : s₁.heap = s.heap := by rw [B.state]; rfl
    have hsz : scr.slots.size = xs.length := by rw [← Array.length_toList, hlist, List.length_map]
    have hval : ∀ j : Nat, j < xs.length → scr.slots[j]? = some (.int (xs.getD j 0)) := fun j hj => by
      rw [← Array.getElem?_toList, hlist]
      simp [hj]
    have hbl : b < s.heap.size := (Array.getElem?_eq_some_iff.mp hcb).1
    have hX : va_X b xs.length (fun j => xs.getD j 0) s s.heap := ⟨scr, hcb, hof, hkn, hsz, hval⟩
    have K : W p l e room_1 s m #[Value.ref b] below meth c s₁.heap [] 0 0 (lw_Z below #[Value.ref b] s) (entryFrame m ([Value.ref b] : List Value).toArray 8) := by
      rw [hh0]
      exact zz_whole HP l hst hbd ⟨B.exec, B.bytes, B.returns, hml, hown, hts, hX, hbl, B.notSynchronized, hgv⟩
    obtain ⟨t, a1, o, b1, b2, b3⟩ := K s₁ rfl X₀
    exact ⟨t, o, a1, b1, b2, b3⟩
theorem lw_pre_spec {args : Array Value} {s : State} (h : (Jvm.Cond.and given_1 narrow_1).before args s = true) (hr : rest_1_c.before args s = true) : ∃ (b : Addr) (xs : List Int32), lw_P b xs args s := by
  have hs := flat_of_before _ h
  have hq := flat_of_before _ hr
  have hc : (Cond.count 1).before args s = true := hs _ (by decide +kernel)
  have harr : (Cond.arrayOf (.arg 0) .int).before args s = true := hs _ (by decide +kernel)
  have hle : (Cond.le (.length (.arg 0)) (.int 2564)).before args s = true := hs _ (by decide +kernel)
  have hlen : (Cond.isInt (.length (.arg 0))).before args s = true := hq _ (by decide +kernel)
  have hall : (Cond.all (.arg 0) (.isInt (.elem (.arg 0) (.index 0)))).before args s = true := hq _ (by decide +kernel)
  obtain ⟨b, xs, hb, hx⟩ := State.ints_of_pre rfl harr hlen hall
  have hsm : xs.length < 2 ^ 31 := hx.choose_spec.2.2.2
  have hev : (Term.length (.arg 0)).eval args s none [] s = some (.int xs.length.toInt32) := hx.length_eval hb
  have hv := Cond.le_ints hev (show (Term.int 2564).eval args s none [] s = some (.int 2564) from rfl)
  have hd : xs.length.toInt32 ≤ 2564 := by
    simpa [Cond.before, Cond.holds, hv] using hle
  have hN : xs.length ≤ 2564 := (Int32.ofNat_le_ofNat hsm (by decide)).mp (show Int32.ofNat xs.length ≤ Int32.ofNat 2564 from hd)
  exact ⟨b, xs, Cond.one_arg hc (show args[0]? = some (.ref b) from hb), hx, hN, h⟩
theorem lw_comes (HP : zz_pure) (l : Launch) (hst : l.stackTraces = false) : Comes l x (Jvm.Cond.code x code maxLocals ret :: tables_1) room_1 (fun tb e args s => Calls_1 tb e args s ∧ rest_1 tb e args s ∧ Pre_1 tb e args s)
    (fun _ _ args s o t => lw_Q args s o t) := by
  intro p e ha hc hk s m args below hf hfit hheap happ hpre
  obtain ⟨b, xs, hP⟩ := lw_pre_spec hpre.2.2 hpre.2.1
  obtain ⟨k, o, h1, h2, h3, hQ⟩ := lw_walk HP l hst b xs p e ha hc hk s m args below hf ((Spec.applies_iff_loose hf).mp happ).1 hP trivial
  exact ⟨k, o, h1, h2, h3, hQ⟩
theorem lw_frame {s t : State} {o : Outcome} {args : Array Value} (h : Framed s o t [] 601024 7292999) :
    Framed s o t (fieldLocs frame_1_writes args s ++ arrayLocs frame_1_arrays args s ++ staticLocs frame_1_statics s) 601024 7292999 := h
theorem lw_limb (HP : zz_pure) (L : Cond) (hL : ∀ (args : Array Value) (s t : State), L.after args s (.returned (some (.int 1))) t = true) :
    ArmFor flags0 classFile x code maxLocals ret World_1 tables_1 room_1 Calls_1 rest_1 Pre_1
      (fun tb e a s o t => postC L tb e a s o t ∧ Framed s o t (fieldLocs frame_1_writes a s ++ arrayLocs frame_1_arrays a s ++ staticLocs frame_1_statics s) 601024 7292999) := by
  intro l hfl _ _ p e ha hc hk s m args below hf hfit hheap happ hpre
  have hst : l.stackTraces = false := by
    unfold Launch.stackTraces
    rw [hfl]
    decide +kernel
  obtain ⟨k, o, h1, h2, h3, rfl, hF⟩ := lw_comes HP l hst p e ha hc hk s m args below hf hfit hheap happ hpre
  exact ⟨k, _, h1, h2, h3, hL args s _, lw_frame hF⟩
theorem zz_i_vc_of (HP : zz_pure) : Claimed_1_1 ∧ Claimed_1_2 := ⟨lw_limb HP limb_1_1 (fun args s t => by simp [limb_1_1, Cond.after, Cond.holds, Cond.value]), lw_limb HP limb_1_2 (fun args s t => Cond.after_iff.mpr (by
  first | (rw [show limb_1_2 = Cond.eq .result (.int 1) from rfl, Cond.eq_ints (x := 1) (y := 1) rfl rfl]; simp; done) | (simp [limb_1_2, Cond.value, Term.eval]; done)))⟩


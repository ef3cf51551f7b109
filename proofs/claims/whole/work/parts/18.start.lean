/-! THE LAW, from its entry -/
def zz_ExS (sb L : Nat) (xs : Nat → Int32) (w : va_W) (U : State) : Prop := va_X sb L xs U U.heap ∧ sb < U.heap.size ∧ ¬ va_A w U.heap.size sb
def zz_cellv (L : Nat) (xs : Nat → Int32) (j : Nat) : Int32 := if j < L then xs j else 0
set_option maxHeartbeats 4000000 in
theorem zc_L_cell (l : Launch) (D : va_G) (k : Nat → ClassId) (w : va_W) (sb L j : Nat) (xs : Nat → Int32) (hj : j < 4) (hL : L ≤ 2564) (sz : Nat) : Met l yL_cell wsL_cell ({ frames := 0, cells := 0, slots := 0, locals := 0 } : Room) (va_Pc [.ref sb, .int (nI j)] (fun U => zz_Pr D k w sz U ∧ zz_ExS sb L xs w U)) (va_Qi (fun (v : Int32) (u : va_W) => v = zz_cellv L xs j ∧ u = w) (zz_Po D k id (va_A w sz)) (va_A w sz)) 0 0 (va_A w sz) := by
  refine Met.ofW (cc := cL_cell) (maxL := 2) (ret := some .int) (by decide) rfl ?_
  intro p e s m args below meth c s₁ B hml hv
  obtain ⟨rfl, ⟨hsz, hP, hK, hD0⟩, hX, hbl, hbA⟩ := hv
  have hx := B.exec
  have hb := B.bytes
  have hr := B.returns
  have hts := atoms_spec (ws := wsL_cell) B.pre
  have hown : s.vm.findClass RL = some m.cls := findClass_of_methodNamed B.named
  have hlocks := B.notSynchronized
  subst hsz
  have hD := hD0.self (sz := s.heap.size)
  generalize hAe : va_A w s.heap.size = A at hD hbA ⊢
  have hA : ∀ q : Nat, s.heap.size ≤ q → A q := fun q h => by rw [← hAe]; exact Or.inr h
  have hS : va_S A s.heap s.heap [] := va_S.rf
  have hl := lv_entry ([.ref sb, .int (nI j)]) (n := 2) (Nat.le_of_ble_eq_true rfl)
  rw [lg_entry_eq]
  generalize hQe : MQ below (va_Qi (fun (v : Int32) (u : va_W) => v = zz_cellv L xs j ∧ u = w) (zz_Po D k id A) A) #[.ref sb, .int (nI j)] s 0 0 A = Q
  have C : zz_ok (p, l, e, ({ frames := 0, cells := 0, slots := 0, locals := 0 } : Room), s, m, #[.ref sb, .int (nI j)], below, meth, c, D, A, 2, Q) cL_cell RL wsL_cell k 2 ({ frames := 0, cells := 0, slots := 0, locals := 0 } : Room) := ⟨hx, hb, hml, hown, hts, hK, hA, hlocks, rfl, rfl⟩
  have SX : zz_okS (p, l, e, ({ frames := 0, cells := 0, slots := 0, locals := 0 } : Room), s, m, #[.ref sb, .int (nI j)], below, meth, c, D, A, 2, Q) sb L xs := ⟨hX, hbl, hbA⟩
  have hret : ∀ (lv : List (Nat × Value)) (v : Int32), v = zz_cellv L xs j → zz_ww (p, l, e, ({ frames := 0, cells := 0, slots := 0, locals := 0 } : Room), s, m, #[.ref sb, .int (nI j)], below, meth, c, D, A, 2, Q) (0, 0) w 13 lv [.int v] := by
    intro lv v hv
    rw [← hQe]
    intro H locs ls hP hD hS hl
    exact W.iret hx hb hr (fun t ht hW => ⟨⟨v, w, rfl, ⟨hv, rfl⟩, by rw [ht]; exact hP, va_K.moved hW.alike hK, hD⟩, hS.F ht⟩) hS.2.2 dL_cell_13
  generalize hXe : ((p, l, e, ({ frames := 0, cells := 0, slots := 0, locals := 0 } : Room), s, m, #[.ref sb, .int (nI j)], below, meth, c, D, A, 2, Q) : zz_X) = X at C SX hret
  have key : zz_ww X (0, 0) w 0 [(0, .ref sb), (1, .int (nI j))] [] := by
    refine zr_iln C 1 dL_cell_0 rfl rfl rfl ?_
    refine zr_aln C 0 dL_cell_1 rfl rfl rfl ?_
    refine zr_slen C SX dL_cell_2 rfl ?_
    by_cases hc : j < L
    · refine zr_icmp_ge (tgt := 12) (K1 := none) (K2 := some ()) (r := ()) C dL_cell_3 (by decide) rfl (if_neg (nI_ge hc (by omega))) (fun h => nomatch h) (fun _ => ?_)
      refine zr_aln C 0 dL_cell_6 rfl rfl rfl ?_
      refine zr_iln C 1 dL_cell_7 rfl rfl rfl ?_
      refine zr_sld (K := some ()) (r := ()) C SX dL_cell_8 rfl ?_ (fun _ => ?_)
      · have hin : zz_in (nI j) L = true := by
          simp only [zz_in, Bool.and_eq_true, Bool.not_eq_true', decide_eq_false_iff_not]
          exact ⟨nI_pos (by omega), by rw [nI_clamp (by omega)]; omega⟩
        simp [zz_gd, hin]
      refine zr_goto (tgt := 13) C dL_cell_9 (by decide) ?_
      refine hret _ _ ?_
      rw [nI_clamp (by omega)]
      simp [zz_cellv, hc]
    · refine zr_icmp_ge (tgt := 12) (K1 := some ()) (K2 := none) (r := ()) C dL_cell_3 (by decide) rfl (if_pos (nI_le (by omega) (by omega))) (fun _ => ?_) (fun h => nomatch h)
      refine zr_ic (v := 0) C dL_cell_12 (by decide) rfl ?_
      refine hret _ _ ?_
      simp [zz_cellv, hc]
  rw [← hXe] at key
  exact key s.heap [] _ hP hD hS hl
theorem zz_ExS_blind {sb L : Nat} {xs : Nat → Int32} {w : va_W} (U : State) (g : JFrame) (mk : MethodId) (a : Array Value) (h : zz_ExS sb L xs w U) : zz_ExS sb L xs w (U.calling g mk a) := ⟨va_X.moved (u := U) (Vm.Alike.refl U.vm) h.1, h.2.1, h.2.2⟩
theorem zd_L_cell : yL_cell.cls ≠ "java/lang/invoke/MethodHandle" ∧ yL_cell.cls ≠ "java/lang/invoke/VarHandle" ∧ (parseMethodDescriptor yL_cell.desc).map (fun d => d.parameters.length) = some 2 := by decide +kernel
set_option maxHeartbeats 4000000 in
theorem zr_cell {X : zz_X} {cc : ByteArray} {own : String} {Ts : List Cond} {k : Nat → ClassId} {nL : Nat} {R : Room} {n : Nat × Nat} {w : va_W} {pc pc' index : Nat} {lv : List (Nat × Value)} {st : List Value} {sb L j : Nat} {xs : Nat → Int32} (C : zz_ok X cc own Ts k nL R) (SX : zz_okS X sb L xs) (hj : j < 4) (hL : L ≤ 2564) (hG : GoodIn Ts (va_wsS own index yL_cell wsL_cell)) (hR : 0 + 1 ≤ R.frames ∧ 8 + (2 + 11) + 0 ≤ R.locals) (hrc : n.1 + 0 ≤ R.cells ∧ n.2 + 0 ≤ R.slots) (hst : (st.map fun v => v.category).sum ≤ 8) (hd : decode cc pc = .ok (.invokestatic index, 3)) (hp : pc + 3 = pc') (h : zz_ww X n w pc' lv (.int (zz_cellv L xs j) :: st)) : zz_ww X n w pc lv (.int (nI j) :: .ref sb :: st) := by
  subst hp
  obtain ⟨p, l, e, R0, s, m, args, below, meth, c, D, A, nL0, Q⟩ := X
  obtain ⟨hx, hb, hml, hown, hts, hK, hA, hlk, en, eR⟩ := C
  subst en eR
  intro H locs ls hP hD hS hl
  obtain ⟨h1, h2, h3⟩ := SX
  have hF : ∀ q, va_A w H.size q → A q := fun q hq => hq.elim (fun ⟨k9, e9, h9⟩ => hD.2 k9 (q, e9) h9) (fun h9 => hA q (Nat.le_trans hS.1 h9))
  refine va_calli (va_runS (As := [.ref sb, .int (nI j)]) (rest := st) ⟨hx, hb, hml, hown, hts⟩ (zc_L_cell l D k w sb L j xs hj hL H.size) (va_cwS 2 hts hG rfl rfl rfl zd_L_cell hR) ⟨zz_blindC zz_ExS_blind, fun U hU hW => ⟨rfl, ⟨by rw [hU], by rw [hU]; exact hP, va_K.moved hW.alike hK, hD.weaken (fun _ _ _ _ => trivial)⟩, by rw [hU]; exact (h1.kept (hS.2.1 sb h2 h3)).moved hW.alike, by rw [hU]; exact Nat.lt_of_lt_of_le h2 hS.1, fun q => h3 (hF _ (by rw [hU] at q; exact q))⟩⟩ rfl rfl hl.1 rfl (lv_room hst) hd hrc) hS (fun q _ h => hF q h) hF (fun v9 u9 t H1 locs1 ht hvm hpost hB hz1 hk1 hS1 => ?_)
  obtain ⟨rfl, rfl⟩ := hpost
  obtain ⟨hP1, hK1, hD1⟩ := hB
  rw [ht] at hP1
  exact h H1 locs1 ls hP1 (hD1.weaken (fun _ _ _ h9 => hF _ h9)) hS1 hl

/-! THE LAW'S HELPERS: calls that may throw, caught; frames -/
theorem zz_ofWH {l : Launch} {y : MethodName} {ws ws' : List Cond} {rm : Room} {Pc : Array Value → State → Prop} {Qc : Array Value → State → Outcome → State → Prop} {mc ms : Nat} {free : Addr → Prop} {cc : ByteArray} {maxL : Nat} {ret : Option FieldType} {hh : List (Nat × Nat × Nat × Nat)}
    (hy : plainName y.cls = true) (hw : ws = Cond.codeWith y cc maxL ret hh :: ws')
    (body : ∀ p e s m args below meth c s₁, BodyLoose p l y (headSpec ws rm) cc maxL ret e s m args below meth c s₁ → c.maxLocals = maxL → c.exceptionTable.toList = tableOf hh → Pc args s →
      W p l e (headSpec ws rm).room s m args below meth c s.heap [] 0 0 (MQ below Qc args s mc ms free) (entryFrame m args maxL)) : Met l y ws rm Pc Qc mc ms free := by
  refine MetFree.of_bodyS (code := cc) (maxLocals := maxL) (ret := ret) hy ?_ ?_
  · intro args s m h hn
    obtain ⟨m9, meth, c, hn9, h1, h2, h3, h4, -, h5, h6, -⟩ := Cond.codeWith_spec (atoms_spec (ws := ws) h _ (by rw [hw]; exact List.mem_cons_self))
    cases hn.symm.trans hn9
    exact ⟨meth, c, h1, h2, h3, h4, h5, h6⟩
  · intro p e s m args below meth c s₁ B hml hP _
    have hh0 : s₁.heap = s.heap := by rw [B.state]; rfl
    have htab : c.exceptionTable.toList = tableOf hh := vx_table (x := y) B (atoms_spec (ws := ws) B.pre _ (by rw [hw]; exact List.mem_cons_self))
    obtain ⟨t, a1, o, b1, b2, b3⟩ := body p e s m args below meth c s₁ B hml htab hP s₁ hh0 (Stand.of_body B)
    exact ⟨t, o, a1, b1, b2, ⟨b3.1, b3.2⟩⟩
def zz_okH (X : zz_X) (hh : List (Nat × Nat × Nat × Nat)) : Prop := match X with
  | (_, l, _, _, s, _, _, _, _, c, _, A, _, _) => l.stackTraces = false ∧ zz_Tx A s s.heap ∧ c.exceptionTable.toList = tableOf hh
def zz_caught (X : zz_X) (c9 pc hpc : Nat) : Prop := match X with
  | (p, l, e, R, s, m, args, below, meth, c, D, A, nL, Q) => ∀ (H : Heap) (locs : List Loc) (cells slots : Nat) (ls : Array Slot) (rest : List Value) (q : Addr) (ce : Cell), H[q]? = some ce → ce.vm = .none → s.vm.findClass (zz_en c9) = some ce.cls → W p l e R s m args below meth c H locs cells slots Q (F0 m hpc ls [.ref q]) → vx_W p l e R s m args below meth c H locs cells slots Q (F0 m pc ls rest) q
theorem zz_caught1 {X : zz_X} {cc : ByteArray} {own : String} {Ts : List Cond} {k : Nat → ClassId} {nL : Nat} {R : Room} {a b hpc ct pc : Nat} {suf : List (Nat × Nat × Nat × Nat)} (C : zz_ok X cc own Ts k nL R) (T : zz_okH X ((a, b, hpc, ct) :: suf)) (hc : covers ⟨a, b, hpc, ct⟩ pc = true) (h0 : ct ≠ 0) (c9 : Nat) (hm : Cond.classLink own ct (zz_en c9) ∈ Ts) (hcast : Cond.castable (zz_en c9) (zz_en c9) ∈ zz_nws) : zz_caught X c9 pc hpc := by
  obtain ⟨p, l, e, R0, s, m, args, below, meth, c, D, A, nL0, Q⟩ := X
  obtain ⟨hx, hb, hml, hown, hts, hK, hA, hlk, en, eR⟩ := C
  obtain ⟨hl9, hT, htab⟩ := T
  intro H locs cells slots ls rest q ce h1 h2 h3 kk
  exact vx_catch (name := zz_en c9) hown [] ⟨a, b, hpc, ct⟩ (tableOf suf) htab (fun z hz => absurd hz List.not_mem_nil) hc h0 (hts _ hm) (va_Nw.use rfl (hT.2.2.2.1 _ hcast)) h1 h2 h3 kk
theorem zz_caught2 {X : zz_X} {cc : ByteArray} {own : String} {Ts : List Cond} {k : Nat → ClassId} {nL : Nat} {R : Room} {a b hpc ct a0 b0 h0 c0 pc : Nat} {suf : List (Nat × Nat × Nat × Nat)} (C : zz_ok X cc own Ts k nL R) (T : zz_okH X ((a0, b0, h0, c0) :: (a, b, hpc, ct) :: suf)) (hc : covers ⟨a, b, hpc, ct⟩ pc = true) (hz0 : ct ≠ 0) (hz1 : c0 ≠ 0) (hm : Cond.classLink own ct "java/lang/IllegalArgumentException" ∈ Ts) (hm0 : Cond.classLink own c0 "java/lang/IndexOutOfBoundsException" ∈ Ts) : zz_caught X 2 pc hpc := by
  obtain ⟨p, l, e, R0, s, m, args, below, meth, c, D, A, nL0, Q⟩ := X
  obtain ⟨hx, hb, hml, hown, hts, hK, hA, hlk, en, eR⟩ := C
  obtain ⟨hl9, hT, htab⟩ := T
  intro H locs cells slots ls rest q ce h1 h2 h3 kk
  exact vx_catch (name := "java/lang/IllegalArgumentException") hown [⟨a0, b0, h0, c0⟩] ⟨a, b, hpc, ct⟩ (tableOf suf) htab (fun z hz => by
    rcases List.mem_singleton.mp hz with rfl
    exact Or.inr ⟨hz1, _, hts _ hm0, hT.2.2.2.2⟩) hc hz0 (hts _ hm) (va_Nw.use rfl (hT.2.2.2.1 (.castable "java/lang/IllegalArgumentException" "java/lang/IllegalArgumentException") (by decide))) h1 h2 h3 kk
/-- the answers of a helper -/
def zz_LH {V : Type} (cv : V → Int64) (hn : Nat → Option Int32) (F : Option ((V × zz_St) ⊕ (Nat × zz_St))) (f : Nat → Int64) : Option (Int32 × (zz_St × (Nat → Int64))) := match F with
  | none => none
  | some (.inl v) => some (0, (v.2, vp_updL f (0 : Int32).toNatClampNeg (cv v.1)))
  | some (.inr e) => match hn e.1 with
    | some x => some (x, (e.2, f))
    | none => none
def zz_wH (a : Nat → Nat) (ob : Nat) (k : Nat → ClassId) (z : Nat) (u : zz_St × (Nat → Int64)) : va_W := [(ob, .inl (k 1, 1, .inr (.inl u.2)))] ++ zz_wC a k z u.1
def zz_MH {σ : Type} (l : Launch) (y : MethodName) (ws : List Cond) (rm : Room) (D : va_G) (k : Nat → ClassId) (wf : σ → va_W) (av : List Value) (S : σ) (r : Int32 × σ) : Prop := ∀ sz : Nat, Met l y ws rm (va_Pc av (zz_PrX D k (wf S) sz)) (va_Qi (fun (v : Int32) (u : σ) => (v, u) = r) (zz_Po D k wf (va_A (wf S) sz)) (va_A (wf S) sz)) rm.cells rm.slots (va_A (wf S) sz)
set_option maxHeartbeats 4000000 in
theorem zz_metH {σ : Type} {l : Launch} {y : MethodName} {ws ws' : List Cond} {rm : Room} {D : va_G} {k : Nat → ClassId} {wf : σ → va_W} {av : List Value} {S : σ} {r : Int32 × σ} {cc : ByteArray} {nL : Nat} {hh : List (Nat × Nat × Nat × Nat)} (hst : l.stackTraces = false) (hy : plainName y.cls = true) (hw : ws = Cond.codeWith y cc nL (some .int) hh :: ws') (hlen : (lg_sl av).length ≤ nL)
    (body : ∀ X : zz_X, zz_ok X cc y.cls ws k nL rm → zz_okH X hh → (∀ (v : Int32) (u : σ) (pc : Nat) (lv : List (Nat × Value)) (n : Nat × Nat), n.1 ≤ rm.cells → n.2 ≤ rm.slots → decode cc pc = .ok (.ireturn, 1) → some (v, u) = some r → zz_ww X n (wf u) pc lv [.int v]) → zz_ww X (0, 0) (wf S) 0 (lv_args 0 av) []) : zz_MH l y ws rm D k wf av S r := by
  intro sz
  refine zz_ofWH (cc := cc) (maxL := nL) (ret := some .int) hy hw ?_
  intro p e s m args below meth c s₁ B hml htab hv
  obtain ⟨rfl, ⟨hsz, hP, hK, hD0⟩, hT⟩ := hv
  have hx := B.exec
  have hb := B.bytes
  have hr := B.returns
  have hts := atoms_spec (ws := ws) B.pre
  have hown : s.vm.findClass y.cls = some m.cls := findClass_of_methodNamed B.named
  have hlocks := B.notSynchronized
  subst hsz
  have hD := hD0.self (sz := s.heap.size)
  generalize hAe : va_A (wf S) s.heap.size = A at hD hT ⊢
  have hA : ∀ q : Nat, s.heap.size ≤ q → A q := fun q h => by rw [← hAe]; exact Or.inr h
  have hS : va_S A s.heap s.heap [] := va_S.rf
  have hl := lv_entry av (n := nL) hlen
  rw [lg_entry_eq]
  refine body (p, l, e, rm, s, m, av.toArray, below, meth, c, D, A, nL, MQ below (va_Qi (fun (v : Int32) (u : σ) => (v, u) = r) (zz_Po D k wf A) A) av.toArray s rm.cells rm.slots A) ⟨hx, hb, hml, hown, hts, hK, hA, hlocks, rfl, rfl⟩ ⟨hst, hT, htab⟩ ?_ s.heap [] _ hP hD hS hl
  intro v u pc lv n h1 h2 hd he
  cases he
  intro H locs ls hP hD hS hl
  refine W.widen h1 h2 ?_
  exact W.zret hx hb hr rfl (fun t ht hW => ⟨⟨v, u, rfl, rfl, by rw [ht]; exact hP, va_K.moved hW.alike hK, hD⟩, hS.F ht⟩) hS.2.2 hd
theorem zz_part_A {wr wc : va_W} {A : Nat → Prop} (hD : va_D A (wr ++ wc)) {sz : Nat} (hA : ∀ q, sz ≤ q → A q) : ∀ q, va_A wc sz q → A q := fun q hq => hq.elim (fun ⟨k9, e9, h9⟩ => hD.2 (wr.length + k9) (q, e9) (by rw [List.getElem?_append_right (by omega), Nat.add_sub_cancel_left]; exact h9)) (fun h9 => hA q h9)
set_option maxHeartbeats 4000000 in
theorem zr_cXf {X : zz_X} {cc : ByteArray} {own : String} {Ts : List Cond} {k : Nat → ClassId} {nL : Nat} {R : Room} {n n' : Nat × Nat} {pc pc' : Nat} {lv : List (Nat × Value)} {st st0 : List Value} {V σ : Type} {enc : V → Value} {pv : V → Prop} {hh : List (Nat × Nat × Nat × Nat)} {wr : va_W} {wf : σ → va_W} {S : σ} {Cn : String} {index maxL na : Nat} {y : MethodName} {bytes : ByteArray} {ret : Option FieldType} {ws ws' : List Cond} {rm : Room} {b : Nat} {As : List Value} {F : Option ((V × σ) ⊕ (Nat × σ))}
    (C : zz_ok X cc own Ts k nL R) (T : zz_okH X hh) (hM : ∀ (l : Launch) (D : va_G) (r : (V × σ) ⊕ (Nat × σ)), l.stackTraces = false → F = some r → zz_MX enc pv l y ws rm D k wf (.ref b :: As) S r) (hG : GoodIn Ts (wsV own index Cn y ws)) (hw : ws = Cond.code y bytes maxL ret :: ws') (hd9 : y.cls = Cn ∧ y.cls ≠ "java/lang/invoke/MethodHandle" ∧ y.cls ≠ "java/lang/invoke/VarHandle" ∧ (parseMethodDescriptor y.desc).map (fun d => d.parameters.length) = some na)
    (hR : rm.frames + 1 ≤ R.frames ∧ 8 + (maxL + 11) + rm.locals ≤ R.locals) (hrc : n.1 + rm.cells ≤ R.cells ∧ n.2 + rm.slots ≤ R.slots) (hn : As.length = na) (hrv : ∃ (q0 ci : Nat) (fs : List Value) (T : u_T) (N : Nat), (wf S)[q0]? = some (b, .inr (ci, fs)) ∧ zz_cl[ci]? = some (Cn, T, N)) (hst : (st.map fun v => v.category).sum ≤ 8) (hs : As.reverse ++ .ref b :: st = st0)
    (hd : decode cc pc = .ok (.invokevirtual index, 3)) (hp : pc + 3 = pc') (hn' : (n.1 + rm.cells, n.2 + rm.slots) = n') (hF0 : F ≠ none) (hox : ∀ (c9 : Nat) (u : σ), F = some (.inr (c9, u)) → ∃ hpc, zz_caught X c9 pc hpc ∧ ∀ q : Nat, zz_ww X n' (wr ++ wf u) hpc lv [.ref q]) (h : ∀ (v : V) (u : σ), pv v → F = some (.inl (v, u)) → zz_ww X n' (wr ++ wf u) pc' lv (enc v :: st)) : zz_ww X n (wr ++ wf S) pc lv st0 := by
  subst hp
  subst hs
  subst hn'
  obtain ⟨p, l, e, R0, s, m, args, below, meth, c, D, A, nL0, Q⟩ := X
  obtain ⟨hx, hb, hml, hown, hts, hK, hA, hlk, en, eR⟩ := C
  subst en eR
  intro H locs ls hP hD hS hl
  obtain ⟨hl9, hT, htab⟩ := T
  obtain ⟨hPc, hDc⟩ := zz_part hP hD
  have hF : ∀ q, va_A (wf S) H.size q → A q := zz_part_A hD (fun q h9 => hA q (Nat.le_trans hS.1 h9))
  obtain ⟨r0, hr0⟩ : ∃ r0, F = some r0 := by
    cases F with
    | none => exact absurd rfl hF0
    | some r0 => exact ⟨r0, rfl⟩
  have hr := vx_runV (As := As) (rest := st) (g := F0 m pc ls (As.reverse ++ .ref b :: st)) (cells := n.1) (slots := n.2) (locs := locs) (e := e) (below := below) (meth := meth) ⟨hx, hb, hml, hown, hts⟩ (hM l D r0 hl9 hr0 H.size) (cwV na hts hG hw rfl rfl hd9 hR) ⟨zz_blindX, (by obtain ⟨q0, ci, fs, T, N, he, hc⟩ := hrv; exact va_recv hK hPc hc he), fun U hU hW => ⟨rfl, ⟨by rw [hU], by rw [hU]; exact hPc, va_K.moved hW.alike hK, hDc.weaken (fun _ _ _ _ => trivial)⟩, by rw [hU]; exact hT.go hW hS hF⟩⟩ rfl hn hl.1 rfl (lv_room hst) hd hrc
  intro T0 hT0 X0
  rcases hr T0 hT0 X0 with ⟨v, st₀, t, T', L, h0, X', hL, e1, e2, ⟨⟨v9, u, hv, hp, hpv, hb9⟩, hFr⟩, stp⟩ | ⟨q, st₀, t, T', L, E, ce, h0, X', hL, e1, e2, ⟨c9, u, hp, hE, hb9, hFr⟩, hce, hcv, hcl, stp⟩
  · cases hv
    subst hp
    obtain ⟨k1, k2, k3⟩ := vx_keep h0 e1 hS (fun q _ h => hF q h) hF hL hFr
    obtain ⟨hP1, hK1, hD1⟩ := hb9
    rw [← e1] at hP1
    obtain ⟨hP2, hD2⟩ := zz_frame hP hD hF k2 hP1 hD1
    obtain ⟨t2, a1, b1⟩ := h v9 u hpv hr0 T'.heap (locs ++ L) ls hP2 hD2 k3 hl T' rfl X'
    exact ⟨t2, stp t2 a1, b1⟩
  · subst hp
    subst hE
    obtain ⟨k1, k2, k3⟩ := vx_keep h0 e1 hS (fun q _ h => hF q h) hF hL hFr
    obtain ⟨hP1, hK1, hD1⟩ := hb9
    rw [← e1] at hP1
    obtain ⟨hP2, hD2⟩ := zz_frame hP hD hF k2 hP1 hD1
    obtain ⟨hpc, hca, hgo⟩ := hox c9 u hr0
    obtain ⟨t2, a1, b1⟩ := hca T'.heap (locs ++ L) _ _ ls st q ce (by rw [e1]; exact hce) hcv hcl (hgo q T'.heap (locs ++ L) ls hP2 hD2 k3 hl) T' rfl X'
    exact ⟨t2, stp.trans a1, b1⟩
set_option maxHeartbeats 4000000 in
theorem zr_fVi {X : zz_X} {cc : ByteArray} {own : String} {Ts : List Cond} {k : Nat → ClassId} {nL : Nat} {R : Room} {n n' : Nat × Nat} {pc pc' : Nat} {lv : List (Nat × Value)} {st st0 : List Value} {α : Type} {r : α} {σ τ : Type} {w : va_W} {w' : τ → va_W} {wr : va_W} {wf : σ → va_W} {S : σ} {Cn : String} {index maxL na : Nat} {y : MethodName} {bytes : ByteArray} {ret : Option FieldType} {ws ws' : List Cond} {rm : Room} {b : Nat} {As : List Value} {F : Option (Int32 × σ)} {G : Option (Int32 × τ)} {K : Int32 → τ → Option α} (up : σ → τ)
    (C : zz_ok X cc own Ts k nL R) (hpm : List.Perm w (wr ++ wf S)) (hpm' : ∀ u : σ, List.Perm (wr ++ wf u) (w' (up u))) (hFG : G = F.map (fun x => (x.1, up x.2))) (hM : ∀ (l : Launch) (D : va_G) (v : Int32) (u : σ), F = some (v, u) → zz_MI l y ws rm D k wf (.ref b :: As) S (v, u)) (hG : GoodIn Ts (wsV own index Cn y ws)) (hw : ws = Cond.code y bytes maxL ret :: ws') (hd9 : y.cls = Cn ∧ y.cls ≠ "java/lang/invoke/MethodHandle" ∧ y.cls ≠ "java/lang/invoke/VarHandle" ∧ (parseMethodDescriptor y.desc).map (fun d => d.parameters.length) = some na)
    (hR : rm.frames + 1 ≤ R.frames ∧ 8 + (maxL + 11) + rm.locals ≤ R.locals) (hrc : n.1 + rm.cells ≤ R.cells ∧ n.2 + rm.slots ≤ R.slots) (hn : As.length = na) (hrv : ∃ (q0 ci : Nat) (fs : List Value) (T : u_T) (N : Nat), (wf S)[q0]? = some (b, .inr (ci, fs)) ∧ zz_cl[ci]? = some (Cn, T, N)) (hst : (st.map fun v => v.category).sum ≤ 8) (hs : As.reverse ++ .ref b :: st = st0)
    (hd : decode cc pc = .ok (.invokevirtual index, 3)) (hp : pc + 3 = pc') (hn' : (n.1 + rm.cells, n.2 + rm.slots) = n') (hq : zz_b2 G K = some r) (h : ∀ (v : Int32) (u : τ), K v u = some r → zz_ww X n' (w' u) pc' lv (.int v :: st)) : zz_ww X n w pc lv st0 := by
  refine zr_perm hpm ?_
  subst hp
  subst hs
  subst hn'
  subst hFG
  obtain ⟨p, l, e, R0, s, m, args, below, meth, c, D, A, nL0, Q⟩ := X
  obtain ⟨hx, hb, hml, hown, hts, hK, hA, hlk, en, eR⟩ := C
  subst en eR
  intro H locs ls hP hD hS hl
  obtain ⟨hPc, hDc⟩ := zz_part hP hD
  have hF : ∀ q, va_A (wf S) H.size q → A q := zz_part_A hD (fun q h9 => hA q (Nat.le_trans hS.1 h9))
  cases hF0 : F with
  | none => rw [hF0] at hq; cases hq
  | some x =>
    obtain ⟨v, u⟩ := x
    rw [hF0] at hq
    refine va_calli (va_runV (As := As) (rest := st) ⟨hx, hb, hml, hown, hts⟩ (hM l D v u hF0 H.size) (cwV na hts hG hw rfl rfl hd9 hR) ⟨zz_blind, (by obtain ⟨q0, ci, fs, T, N, he, hc⟩ := hrv; exact va_recv hK hPc hc he), fun U hU hW => ⟨rfl, by rw [hU], by rw [hU]; exact hPc, va_K.moved hW.alike hK, hDc.weaken (fun _ _ _ _ => trivial)⟩⟩ rfl hn hl.1 rfl (lv_room hst) hd hrc) hS (fun q _ h => hF q h) hF (fun v9 u9 t H1 locs1 ht hvm hpost hB hz1 hk1 hS1 => ?_)
    cases hpost
    obtain ⟨hP1, hK1, hD1⟩ := hB
    rw [ht] at hP1
    obtain ⟨hP2, hD2⟩ := zz_frame hP hD hF hk1 hP1 hD1
    exact h v (up u) hq H1 locs1 ls (zz_P_perm (hpm' u) hP2) (zz_D_perm (hpm' u) hD2) hS1 hl
set_option maxHeartbeats 4000000 in
theorem zr_fVl {X : zz_X} {cc : ByteArray} {own : String} {Ts : List Cond} {k : Nat → ClassId} {nL : Nat} {R : Room} {n n' : Nat × Nat} {pc pc' : Nat} {lv : List (Nat × Value)} {st st0 : List Value} {α : Type} {r : α} {σ τ : Type} {w : va_W} {w' : τ → va_W} {wr : va_W} {wf : σ → va_W} {S : σ} {Cn : String} {index maxL na : Nat} {y : MethodName} {bytes : ByteArray} {ret : Option FieldType} {ws ws' : List Cond} {rm : Room} {b : Nat} {As : List Value} {F : Option (Int64 × σ)} {G : Option (Int64 × τ)} {K : Int64 → τ → Option α} (up : σ → τ)
    (C : zz_ok X cc own Ts k nL R) (hpm : List.Perm w (wr ++ wf S)) (hpm' : ∀ u : σ, List.Perm (wr ++ wf u) (w' (up u))) (hFG : G = F.map (fun x => (x.1, up x.2))) (hM : ∀ (l : Launch) (D : va_G) (v : Int64) (u : σ), F = some (v, u) → zz_ML l y ws rm D k wf (.ref b :: As) S (v, u)) (hG : GoodIn Ts (wsV own index Cn y ws)) (hw : ws = Cond.code y bytes maxL ret :: ws') (hd9 : y.cls = Cn ∧ y.cls ≠ "java/lang/invoke/MethodHandle" ∧ y.cls ≠ "java/lang/invoke/VarHandle" ∧ (parseMethodDescriptor y.desc).map (fun d => d.parameters.length) = some na)
    (hR : rm.frames + 1 ≤ R.frames ∧ 8 + (maxL + 11) + rm.locals ≤ R.locals) (hrc : n.1 + rm.cells ≤ R.cells ∧ n.2 + rm.slots ≤ R.slots) (hn : As.length = na) (hrv : ∃ (q0 ci : Nat) (fs : List Value) (T : u_T) (N : Nat), (wf S)[q0]? = some (b, .inr (ci, fs)) ∧ zz_cl[ci]? = some (Cn, T, N)) (hst : (st.map fun v => v.category).sum ≤ 8) (hs : As.reverse ++ .ref b :: st = st0)
    (hd : decode cc pc = .ok (.invokevirtual index, 3)) (hp : pc + 3 = pc') (hn' : (n.1 + rm.cells, n.2 + rm.slots) = n') (hq : zz_b2 G K = some r) (h : ∀ (v : Int64) (u : τ), K v u = some r → zz_ww X n' (w' u) pc' lv (.long v :: st)) : zz_ww X n w pc lv st0 := by
  refine zr_perm hpm ?_
  subst hp
  subst hs
  subst hn'
  subst hFG
  obtain ⟨p, l, e, R0, s, m, args, below, meth, c, D, A, nL0, Q⟩ := X
  obtain ⟨hx, hb, hml, hown, hts, hK, hA, hlk, en, eR⟩ := C
  subst en eR
  intro H locs ls hP hD hS hl
  obtain ⟨hPc, hDc⟩ := zz_part hP hD
  have hF : ∀ q, va_A (wf S) H.size q → A q := zz_part_A hD (fun q h9 => hA q (Nat.le_trans hS.1 h9))
  cases hF0 : F with
  | none => rw [hF0] at hq; cases hq
  | some x =>
    obtain ⟨v, u⟩ := x
    rw [hF0] at hq
    refine va_calll (va_runV (As := As) (rest := st) ⟨hx, hb, hml, hown, hts⟩ (hM l D v u hF0 H.size) (cwV na hts hG hw rfl rfl hd9 hR) ⟨zz_blind, (by obtain ⟨q0, ci, fs, T, N, he, hc⟩ := hrv; exact va_recv hK hPc hc he), fun U hU hW => ⟨rfl, by rw [hU], by rw [hU]; exact hPc, va_K.moved hW.alike hK, hDc.weaken (fun _ _ _ _ => trivial)⟩⟩ rfl hn hl.1 rfl (lv_room hst) hd hrc) hS (fun q _ h => hF q h) hF (fun v9 u9 t H1 locs1 ht hvm hpost hB hz1 hk1 hS1 => ?_)
    cases hpost
    obtain ⟨hP1, hK1, hD1⟩ := hB
    rw [ht] at hP1
    obtain ⟨hP2, hD2⟩ := zz_frame hP hD hF hk1 hP1 hD1
    exact h v (up u) hq H1 locs1 ls (zz_P_perm (hpm' u) hP2) (zz_D_perm (hpm' u) hD2) hS1 hl
def zz_okX (X : zz_X) : Prop := match X with
  | (_, l, _, _, s, _, _, _, _, _, _, A, _, _) => l.stackTraces = false ∧ zz_Tx A s s.heap
set_option maxHeartbeats 4000000 in
theorem zr_fSH {X : zz_X} {cc : ByteArray} {own : String} {Ts : List Cond} {k : Nat → ClassId} {nL : Nat} {R : Room} {n n' : Nat × Nat} {pc pc' : Nat} {lv : List (Nat × Value)} {st st0 : List Value} {α : Type} {r : α} {σ τ : Type} {w : va_W} {w' : τ → va_W} {wr : va_W} {wf : σ → va_W} {S : σ} {index maxL na : Nat} {hh : List (Nat × Nat × Nat × Nat)} {y : MethodName} {bytes : ByteArray} {ret : Option FieldType} {ws ws' : List Cond} {rm : Room} {As : List Value} {F : Option (Int32 × σ)} {G : Option (Int32 × τ)} {K : Int32 → τ → Option α} (up : σ → τ)
    (C : zz_ok X cc own Ts k nL R) (T : zz_okX X) (hpm : List.Perm w (wr ++ wf S)) (hpm' : ∀ u : σ, List.Perm (wr ++ wf u) (w' (up u))) (hFG : G = F.map (fun x => (x.1, up x.2))) (hM : ∀ (l : Launch) (D : va_G) (v : Int32) (u : σ), l.stackTraces = false → F = some (v, u) → zz_MH l y ws rm D k wf As S (v, u)) (hG : GoodIn Ts (va_wsS own index y ws)) (hw : ws = Cond.codeWith y bytes maxL ret hh :: ws') (hd9 : y.cls ≠ "java/lang/invoke/MethodHandle" ∧ y.cls ≠ "java/lang/invoke/VarHandle" ∧ (parseMethodDescriptor y.desc).map (fun d => d.parameters.length) = some na)
    (hR : rm.frames + 1 ≤ R.frames ∧ 8 + (maxL + 11) + rm.locals ≤ R.locals) (hrc : n.1 + rm.cells ≤ R.cells ∧ n.2 + rm.slots ≤ R.slots) (hn : As.length = na) (hst : (st.map fun v => v.category).sum ≤ 8) (hs : As.reverse ++ st = st0)
    (hd : decode cc pc = .ok (.invokestatic index, 3)) (hp : pc + 3 = pc') (hn' : (n.1 + rm.cells, n.2 + rm.slots) = n') (hq : zz_b2 G K = some r) (h : ∀ (v : Int32) (u : τ), K v u = some r → zz_ww X n' (w' u) pc' lv (.int v :: st)) : zz_ww X n w pc lv st0 := by
  refine zr_perm hpm ?_
  subst hp
  subst hs
  subst hn'
  subst hFG
  obtain ⟨p, l, e, R0, s, m, args, below, meth, c, D, A, nL0, Q⟩ := X
  obtain ⟨hx, hb, hml, hown, hts, hK, hA, hlk, en, eR⟩ := C
  subst en eR
  intro H locs ls hP hD hS hl
  obtain ⟨hl9, hT⟩ := T
  obtain ⟨hPc, hDc⟩ := zz_part hP hD
  have hF : ∀ q, va_A (wf S) H.size q → A q := zz_part_A hD (fun q h9 => hA q (Nat.le_trans hS.1 h9))
  cases hF0 : F with
  | none => rw [hF0] at hq; cases hq
  | some x =>
    obtain ⟨v, u⟩ := x
    rw [hF0] at hq
    refine va_calli (vx_runSW (As := As) (rest := st) ⟨hx, hb, hml, hown, hts⟩ (hM l D v u hl9 hF0 H.size) (vx_cwSW na hts hG hw rfl rfl hd9 hR) ⟨zz_blindX, fun U hU hW => ⟨rfl, ⟨by rw [hU], by rw [hU]; exact hPc, va_K.moved hW.alike hK, hDc.weaken (fun _ _ _ _ => trivial)⟩, by rw [hU]; exact hT.go hW hS hF⟩⟩ rfl hn hl.1 rfl (lv_room hst) hd hrc) hS (fun q _ h => hF q h) hF (fun v9 u9 t H1 locs1 ht hvm hpost hB hz1 hk1 hS1 => ?_)
    cases hpost
    obtain ⟨hP1, hK1, hD1⟩ := hB
    rw [ht] at hP1
    obtain ⟨hP2, hD2⟩ := zz_frame hP hD hF hk1 hP1 hD1
    exact h v (up u) hq H1 locs1 ls (zz_P_perm (hpm' u) hP2) (zz_D_perm (hpm' u) hD2) hS1 hl

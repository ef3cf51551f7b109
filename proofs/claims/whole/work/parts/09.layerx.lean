/-! THROWING METHODS: contracts of methods that return or throw; the world as it stands then -/
def zz_en (c : Nat) : String := if c = 1 then "java/lang/IndexOutOfBoundsException" else "java/lang/IllegalArgumentException"
def zz_strs : List (Nat × String) := [(105, "no such layer"), (116, "a cost is not 0 .. 50"), (123, "rounds are not 1 .. 20"), (146, "no such piece"), (181, "no such net"), (187, "no such cell")]
def zz_nws : List Cond := [.declares (Bundle.initS "java/lang/RuntimeException"), .declares (Bundle.initS "java/lang/Exception"), .declares (Bundle.initS Bundle.tN), .castable "java/lang/IndexOutOfBoundsException" "java/lang/IndexOutOfBoundsException", .castable "java/lang/IllegalArgumentException" "java/lang/IllegalArgumentException"]
def zz_Tx (A : Nat → Prop) (U : State) (H : Heap) : Prop := vx_Zq Bundle.tN "UNASSIGNED_STACK" Bundle.steD A U H ∧ vx_Zq Bundle.tN "SUPPRESSED_SENTINEL" Bundle.listD A U H ∧ (∀ q ∈ zz_strs, ∃ sa, vk_R RX6 q.1 q.2 sa U) ∧ (∀ w ∈ zz_nws, va_Nw w U) ∧ va_Nc "java/lang/IllegalArgumentException" "java/lang/IndexOutOfBoundsException" U
theorem zz_nws_warm {s U : State} (hW : s.WarmedH U.vm) (h : ∀ w ∈ zz_nws, va_Nw w s) : ∀ w ∈ zz_nws, va_Nw w U := by
  intro w hw
  have h1 := h w hw
  simp only [zz_nws, List.mem_cons, List.not_mem_nil, or_false] at hw
  rcases hw with rfl | rfl | rfl | rfl | rfl
  · exact va_Nw.warmD hW h1
  · exact va_Nw.warmD hW h1
  · exact va_Nw.warmD hW h1
  · exact va_Nw.warmC hW h1
  · exact va_Nw.warmC hW h1
theorem zz_Tx.go {A A' : Nat → Prop} {s U : State} {H0 H : Heap} {locs : List Loc} (h : zz_Tx A s H0) (hW : s.WarmedH U.vm) (hS : va_S A H0 H locs) (hA : ∀ q, A' q → A q) : zz_Tx A' U H :=
  ⟨((h.1.kept hS.2.1).moved hW.alike).narrow hA, ((h.2.1.kept hS.2.1).moved hW.alike).narrow hA, fun q hq => (h.2.2.1 q hq).imp (fun _ z => vk_R.warm hW z), zz_nws_warm hW h.2.2.2.1, va_Nc.moved hW.alike h.2.2.2.2⟩
def zz_PrX (D : va_G) (k : Nat → ClassId) (w : va_W) (sz : Nat) : State → Prop := fun U => zz_Pr D k w sz U ∧ zz_Tx (va_A w sz) U U.heap
theorem zz_Zq_calling {C n d : String} {A : Nat → Prop} {U : State} {g : JFrame} {mk : MethodId} {a : Array Value} (h : vx_Zq C n d A U U.heap) : vx_Zq C n d A (U.calling g mk a) (U.calling g mk a).heap := vx_Zq.moved (u := U) (U := U.calling g mk a) (Vm.Alike.refl U.vm) h
theorem zz_blindX {D : va_G} {k : Nat → ClassId} {w : va_W} {sz : Nat} {av : List Value} : FrameBlind (va_Pc av (zz_PrX D k w sz)) := fun a U g mk q => by
  obtain ⟨q0, ⟨q1, qP, qK, qD⟩, qZ⟩ := q
  exact ⟨q0, ⟨q1, qP, va_K.moved (u := U) (U := U.calling g mk a) (Vm.Alike.refl U.vm) qK, qD⟩, zz_Zq_calling qZ.1, zz_Zq_calling qZ.2.1, fun q hq => (qZ.2.2.1 q hq).imp (fun _ z => vk_R.same (u := U) rfl z), fun w hw => va_Nw.same (by simp only [zz_nws, List.mem_cons, List.not_mem_nil, or_false] at hw; rcases hw with rfl | rfl | rfl | rfl | rfl <;> rfl) (u := U) rfl (qZ.2.2.2.1 w hw), va_Nc.moved (u := U) (Vm.Alike.refl U.vm) qZ.2.2.2.2⟩
/-- the answer's form -/
def zz_QX {V σ : Type} (enc : V → Value) (pv : V → Prop) (D : va_G) (k : Nat → ClassId) (wf : σ → va_W) (A : Nat → Prop) (r : (V × σ) ⊕ (Nat × σ)) : Array Value → State → Outcome → State → Prop := fun _ st o t => (∃ (v : V) (u : σ), o = .returned (some (enc v)) ∧ r = .inl (v, u) ∧ pv v ∧ zz_Po D k wf A u t) ∧ va_F A st t
def zz_XX {V σ : Type} (D : va_G) (k : Nat → ClassId) (wf : σ → va_W) (A : Nat → Prop) (r : (V × σ) ⊕ (Nat × σ)) : String → State → State → Prop := fun E st t => ∃ (c : Nat) (u : σ), r = .inr (c, u) ∧ E = zz_en c ∧ zz_Po D k wf A u t ∧ va_F A st t
def zz_MX {V σ : Type} (enc : V → Value) (pv : V → Prop) (l : Launch) (y : MethodName) (ws : List Cond) (rm : Room) (D : va_G) (k : Nat → ClassId) (wf : σ → va_W) (av : List Value) (S : σ) (r : (V × σ) ⊕ (Nat × σ)) : Prop := ∀ sz : Nat, vx_Met l y ws rm (va_Pc av (zz_PrX D k (wf S) sz)) (zz_QX enc pv D k wf (va_A (wf S) sz) r) (zz_XX D k wf (va_A (wf S) sz) r) rm.cells rm.slots (va_A (wf S) sz)
/-- behind a throw: the exception's class by its number, the world -/
def zz_wx (X : zz_X) (n : Nat × Nat) (w : va_W) (c9 : Nat) : Prop := match X with
  | (p, l, e, R, s, m, args, below, meth, c, D, A, nL, Q) => ∀ (H : Heap) (locs : List Loc) (ls : Array Slot) (pc : Nat) (rest : List Value) (q : Addr) (ce : Cell), va_P D zz_cl w H → va_D A w → va_S A s.heap H locs → H[q]? = some ce → ce.vm = .none → s.vm.findClass (zz_en c9) = some ce.cls → vx_W p l e R s m args below meth c H locs n.1 n.2 Q (F0 m pc ls rest) q
def zz_okT (X : zz_X) : Prop := match X with
  | (_, l, _, _, s, _, _, _, _, c, _, A, _, _) => l.stackTraces = false ∧ zz_Tx A s s.heap ∧ ∀ x ∈ c.exceptionTable.toList, False
def zz_bx {V σ τ : Type} (x : Option ((V × σ) ⊕ (Nat × σ))) (k : V → σ → Option (τ ⊕ (Nat × σ))) : Option (τ ⊕ (Nat × σ)) := match x with
  | some (.inl v) => k v.1 v.2
  | some (.inr e) => some (.inr e)
  | none => none
set_option maxHeartbeats 4000000 in
theorem zz_metXI {σ : Type} {l : Launch} {y : MethodName} {ws ws' : List Cond} {rm : Room} {D : va_G} {k : Nat → ClassId} {wf : σ → va_W} {av : List Value} {S : σ} {r : (Int32 × σ) ⊕ (Nat × σ)} {cc : ByteArray} {nL : Nat} {ty : FieldType} (hst : l.stackTraces = false) (hy : plainName y.cls = true) (hw : ws = Cond.code y cc nL (some ty) :: ws') (hlen : (lg_sl av).length ≤ nL)
    (body : ∀ X : zz_X, zz_ok X cc y.cls ws k nL rm → zz_okT X → (∀ (v : Int32) (u : σ) (pc : Nat) (lv : List (Nat × Value)) (n : Nat × Nat), n.1 ≤ rm.cells → n.2 ≤ rm.slots → decode cc pc = .ok (.ireturn, 1) → narrow ty (.int v) = .int v → some (Sum.inl (v, u)) = some r → zz_ww X n (wf u) pc lv [.int v]) → (∀ (c9 : Nat) (u : σ) (n : Nat × Nat), n.1 ≤ rm.cells → n.2 ≤ rm.slots → some (Sum.inr (c9, u)) = some r → zz_wx X n (wf u) c9) →
      (∀ (c9 : Nat) (u : σ) (n : Nat × Nat) (pc : Nat) (lv : List (Nat × Value)) (st : List Value), n.1 + 1 ≤ rm.cells → n.2 + 6 ≤ rm.slots → some (Sum.inr (c9, u)) = some r → (∀ (H : Heap) (locs : List Loc) (ls : Array Slot) (Q9 : State → Prop), va_S X.2.2.2.2.2.2.2.2.2.2.2.1 X.2.2.2.2.1.heap H locs → lv_has ls X.2.2.2.2.2.2.2.2.2.2.2.2.1 lv → (∀ (Qc : Array Value → State → Outcome → State → Prop) (XC : String → State → State → Prop) (mc ms : Nat) (free : Addr → Prop), n.1 + 1 ≤ mc → n.2 + 6 ≤ ms → (∀ z ∈ locs, free z.base) → (∀ t : State, X.2.2.2.2.1.vm.Alike t.vm → H.size ≤ t.heap.size → (∀ q : Nat, q < H.size → t.heap[q]? = H[q]?) → XC (zz_en c9) X.2.2.2.2.1 t) → Q9 = vx_MQ X.2.2.2.2.2.2.2.1 Qc XC X.2.2.2.2.2.2.1 X.2.2.2.2.1 mc ms free → W X.1 X.2.1 X.2.2.1 X.2.2.2.1 X.2.2.2.2.1 X.2.2.2.2.2.1 X.2.2.2.2.2.2.1 X.2.2.2.2.2.2.2.1 X.2.2.2.2.2.2.2.2.1 X.2.2.2.2.2.2.2.2.2.1 H locs n.1 n.2 Q9 (F0 X.2.2.2.2.2.1 pc ls st))) → zz_ww X n (wf u) pc lv st) → zz_ww X (0, 0) (wf S) 0 (lv_args 0 av) []) : zz_MX Value.int (fun _ => True) l y ws rm D k wf av S r := by
  intro sz
  refine vx_ofW (cc := cc) (maxL := nL) (ret := (some ty)) hy hw ?_
  intro p e s m args below meth c s₁ B hml htab hv
  obtain ⟨rfl, ⟨hsz, hP, hK, hD0⟩, hT⟩ := hv
  have hx := B.exec
  have hb := B.bytes
  have hr := B.returns
  have hts := atoms_spec (ws := ws) B.pre
  have hown : s.vm.findClass y.cls = some m.cls := findClass_of_methodNamed B.named
  have hlocks := B.notSynchronized
  subst hsz
  have hD := hD0.self (sz := s.heap.size)
  generalize hAe : va_A (wf S) s.heap.size = A at hD hT ⊢
  have hA : ∀ q : Nat, s.heap.size ≤ q → A q := fun q h => by rw [← hAe]; exact Or.inr h
  have hS : va_S A s.heap s.heap [] := va_S.rf
  have hl := lv_entry av (n := nL) hlen
  rw [lg_entry_eq]
  refine body (p, l, e, rm, s, m, av.toArray, below, meth, c, D, A, nL, vx_MQ below (zz_QX Value.int (fun _ => True) D k wf A r) (zz_XX D k wf A r) av.toArray s rm.cells rm.slots A) ⟨hx, hb, hml, hown, hts, hK, hA, hlocks, rfl, rfl⟩ ⟨hst, hT, htab⟩ ?_ ?_ ?_ s.heap [] _ hP hD hS hl
  · intro v u pc lv n h1 h2 hd hn he
    cases he
    intro H locs ls hP hD hS hl
    refine vx_ret (W.widen h1 h2 ?_)
    exact W.zret hx hb hr hn (fun t ht hW => ⟨⟨v, u, rfl, rfl, trivial, by rw [ht]; exact hP, va_K.moved hW.alike hK, hD⟩, hS.F ht⟩) hS.2.2 hd
  · intro c9 u n h1 h2 he
    cases he
    intro H locs ls pc rest q ce hP hD hS hce hcv hcl
    exact vx_out (fun x hx => (htab x hx).elim) hlocks hce hcv hcl (fun t ht hal => ⟨c9, u, rfl, rfl, ⟨by rw [ht]; exact hP, va_K.moved hal hK, hD⟩, hS.F ht⟩) hS.2.2 h1 h2
  · intro c9 u n pc lv st h1 h2 he hth
    cases he
    intro H locs ls hP hD hS hl
    refine hth H locs ls _ hS hl _ _ _ _ _ h1 h2 hS.2.2 (fun t hal hz hk => ⟨c9, u, rfl, rfl, ⟨hP.kept (fun k9 q9 hq9 => hk _ ((hP k9 q9 hq9).lt)), va_K.moved hal hK, hD⟩, Nat.le_trans hS.1 hz, fun q h3 h4 => by rw [hk q (Nat.lt_of_lt_of_le h3 hS.1)]; exact hS.2.1 q h3 h4⟩) rfl
set_option maxHeartbeats 4000000 in
theorem zz_metXL {σ : Type} {l : Launch} {y : MethodName} {ws ws' : List Cond} {rm : Room} {D : va_G} {k : Nat → ClassId} {wf : σ → va_W} {av : List Value} {S : σ} {r : (Int64 × σ) ⊕ (Nat × σ)} {cc : ByteArray} {nL : Nat}  (hst : l.stackTraces = false) (hy : plainName y.cls = true) (hw : ws = Cond.code y cc nL (some .long) :: ws') (hlen : (lg_sl av).length ≤ nL)
    (body : ∀ X : zz_X, zz_ok X cc y.cls ws k nL rm → zz_okT X → (∀ (v : Int64) (u : σ) (pc : Nat) (lv : List (Nat × Value)) (n : Nat × Nat), n.1 ≤ rm.cells → n.2 ≤ rm.slots → decode cc pc = .ok (.lreturn, 1) → some (Sum.inl (v, u)) = some r → zz_ww X n (wf u) pc lv [.long v]) → (∀ (c9 : Nat) (u : σ) (n : Nat × Nat), n.1 ≤ rm.cells → n.2 ≤ rm.slots → some (Sum.inr (c9, u)) = some r → zz_wx X n (wf u) c9) →
      (∀ (c9 : Nat) (u : σ) (n : Nat × Nat) (pc : Nat) (lv : List (Nat × Value)) (st : List Value), n.1 + 1 ≤ rm.cells → n.2 + 6 ≤ rm.slots → some (Sum.inr (c9, u)) = some r → (∀ (H : Heap) (locs : List Loc) (ls : Array Slot) (Q9 : State → Prop), va_S X.2.2.2.2.2.2.2.2.2.2.2.1 X.2.2.2.2.1.heap H locs → lv_has ls X.2.2.2.2.2.2.2.2.2.2.2.2.1 lv → (∀ (Qc : Array Value → State → Outcome → State → Prop) (XC : String → State → State → Prop) (mc ms : Nat) (free : Addr → Prop), n.1 + 1 ≤ mc → n.2 + 6 ≤ ms → (∀ z ∈ locs, free z.base) → (∀ t : State, X.2.2.2.2.1.vm.Alike t.vm → H.size ≤ t.heap.size → (∀ q : Nat, q < H.size → t.heap[q]? = H[q]?) → XC (zz_en c9) X.2.2.2.2.1 t) → Q9 = vx_MQ X.2.2.2.2.2.2.2.1 Qc XC X.2.2.2.2.2.2.1 X.2.2.2.2.1 mc ms free → W X.1 X.2.1 X.2.2.1 X.2.2.2.1 X.2.2.2.2.1 X.2.2.2.2.2.1 X.2.2.2.2.2.2.1 X.2.2.2.2.2.2.2.1 X.2.2.2.2.2.2.2.2.1 X.2.2.2.2.2.2.2.2.2.1 H locs n.1 n.2 Q9 (F0 X.2.2.2.2.2.1 pc ls st))) → zz_ww X n (wf u) pc lv st) → zz_ww X (0, 0) (wf S) 0 (lv_args 0 av) []) : zz_MX Value.long (fun _ => True) l y ws rm D k wf av S r := by
  intro sz
  refine vx_ofW (cc := cc) (maxL := nL) (ret := (some .long)) hy hw ?_
  intro p e s m args below meth c s₁ B hml htab hv
  obtain ⟨rfl, ⟨hsz, hP, hK, hD0⟩, hT⟩ := hv
  have hx := B.exec
  have hb := B.bytes
  have hr := B.returns
  have hts := atoms_spec (ws := ws) B.pre
  have hown : s.vm.findClass y.cls = some m.cls := findClass_of_methodNamed B.named
  have hlocks := B.notSynchronized
  subst hsz
  have hD := hD0.self (sz := s.heap.size)
  generalize hAe : va_A (wf S) s.heap.size = A at hD hT ⊢
  have hA : ∀ q : Nat, s.heap.size ≤ q → A q := fun q h => by rw [← hAe]; exact Or.inr h
  have hS : va_S A s.heap s.heap [] := va_S.rf
  have hl := lv_entry av (n := nL) hlen
  rw [lg_entry_eq]
  refine body (p, l, e, rm, s, m, av.toArray, below, meth, c, D, A, nL, vx_MQ below (zz_QX Value.long (fun _ => True) D k wf A r) (zz_XX D k wf A r) av.toArray s rm.cells rm.slots A) ⟨hx, hb, hml, hown, hts, hK, hA, hlocks, rfl, rfl⟩ ⟨hst, hT, htab⟩ ?_ ?_ ?_ s.heap [] _ hP hD hS hl
  · intro v u pc lv n h1 h2 hd he
    cases he
    intro H locs ls hP hD hS hl
    refine vx_ret (W.widen h1 h2 ?_)
    exact W.lret hx hb hr (fun t ht hW => ⟨⟨v, u, rfl, rfl, trivial, by rw [ht]; exact hP, va_K.moved hW.alike hK, hD⟩, hS.F ht⟩) hS.2.2 hd
  · intro c9 u n h1 h2 he
    cases he
    intro H locs ls pc rest q ce hP hD hS hce hcv hcl
    exact vx_out (fun x hx => (htab x hx).elim) hlocks hce hcv hcl (fun t ht hal => ⟨c9, u, rfl, rfl, ⟨by rw [ht]; exact hP, va_K.moved hal hK, hD⟩, hS.F ht⟩) hS.2.2 h1 h2
  · intro c9 u n pc lv st h1 h2 he hth
    cases he
    intro H locs ls hP hD hS hl
    refine hth H locs ls _ hS hl _ _ _ _ _ h1 h2 hS.2.2 (fun t hal hz hk => ⟨c9, u, rfl, rfl, ⟨hP.kept (fun k9 q9 hq9 => hk _ ((hP k9 q9 hq9).lt)), va_K.moved hal hK, hD⟩, Nat.le_trans hS.1 hz, fun q h3 h4 => by rw [hk q (Nat.lt_of_lt_of_le h3 hS.1)]; exact hS.2.1 q h3 h4⟩) rfl
set_option maxHeartbeats 4000000 in
theorem zz_metXN {σ : Type} {l : Launch} {y : MethodName} {ws ws' : List Cond} {rm : Room} {D : va_G} {k : Nat → ClassId} {wf : σ → va_W} {av : List Value} {S : σ} {r : (Nat × σ) ⊕ (Nat × σ)} {cc : ByteArray} {nL : Nat} {ad : Nat → Nat} (hst : l.stackTraces = false) (hy : plainName y.cls = true) (hw : ws = Cond.code y cc nL (some (.object "GridRipUp$Net")) :: ws') (hlen : (lg_sl av).length ≤ nL)
    (body : ∀ X : zz_X, zz_ok X cc y.cls ws k nL rm → zz_okT X → (∀ (v : Nat) (u : σ) (pc : Nat) (lv : List (Nat × Value)) (n : Nat × Nat), n.1 ≤ rm.cells → n.2 ≤ rm.slots → decode cc pc = .ok (.areturn, 1) → v < 12 → some (Sum.inl (v, u)) = some r → zz_ww X n (wf u) pc lv [.ref (ad (21 + v))]) → (∀ (c9 : Nat) (u : σ) (n : Nat × Nat), n.1 ≤ rm.cells → n.2 ≤ rm.slots → some (Sum.inr (c9, u)) = some r → zz_wx X n (wf u) c9) →
      (∀ (c9 : Nat) (u : σ) (n : Nat × Nat) (pc : Nat) (lv : List (Nat × Value)) (st : List Value), n.1 + 1 ≤ rm.cells → n.2 + 6 ≤ rm.slots → some (Sum.inr (c9, u)) = some r → (∀ (H : Heap) (locs : List Loc) (ls : Array Slot) (Q9 : State → Prop), va_S X.2.2.2.2.2.2.2.2.2.2.2.1 X.2.2.2.2.1.heap H locs → lv_has ls X.2.2.2.2.2.2.2.2.2.2.2.2.1 lv → (∀ (Qc : Array Value → State → Outcome → State → Prop) (XC : String → State → State → Prop) (mc ms : Nat) (free : Addr → Prop), n.1 + 1 ≤ mc → n.2 + 6 ≤ ms → (∀ z ∈ locs, free z.base) → (∀ t : State, X.2.2.2.2.1.vm.Alike t.vm → H.size ≤ t.heap.size → (∀ q : Nat, q < H.size → t.heap[q]? = H[q]?) → XC (zz_en c9) X.2.2.2.2.1 t) → Q9 = vx_MQ X.2.2.2.2.2.2.2.1 Qc XC X.2.2.2.2.2.2.1 X.2.2.2.2.1 mc ms free → W X.1 X.2.1 X.2.2.1 X.2.2.2.1 X.2.2.2.2.1 X.2.2.2.2.2.1 X.2.2.2.2.2.2.1 X.2.2.2.2.2.2.2.1 X.2.2.2.2.2.2.2.2.1 X.2.2.2.2.2.2.2.2.2.1 H locs n.1 n.2 Q9 (F0 X.2.2.2.2.2.1 pc ls st))) → zz_ww X n (wf u) pc lv st) → zz_ww X (0, 0) (wf S) 0 (lv_args 0 av) []) : zz_MX (fun v : Nat => Value.ref (ad (21 + v))) (fun v : Nat => v < 12) l y ws rm D k wf av S r := by
  intro sz
  refine vx_ofW (cc := cc) (maxL := nL) (ret := (some (.object "GridRipUp$Net"))) hy hw ?_
  intro p e s m args below meth c s₁ B hml htab hv
  obtain ⟨rfl, ⟨hsz, hP, hK, hD0⟩, hT⟩ := hv
  have hx := B.exec
  have hb := B.bytes
  have hr := B.returns
  have hts := atoms_spec (ws := ws) B.pre
  have hown : s.vm.findClass y.cls = some m.cls := findClass_of_methodNamed B.named
  have hlocks := B.notSynchronized
  subst hsz
  have hD := hD0.self (sz := s.heap.size)
  generalize hAe : va_A (wf S) s.heap.size = A at hD hT ⊢
  have hA : ∀ q : Nat, s.heap.size ≤ q → A q := fun q h => by rw [← hAe]; exact Or.inr h
  have hS : va_S A s.heap s.heap [] := va_S.rf
  have hl := lv_entry av (n := nL) hlen
  rw [lg_entry_eq]
  refine body (p, l, e, rm, s, m, av.toArray, below, meth, c, D, A, nL, vx_MQ below (zz_QX (fun v : Nat => Value.ref (ad (21 + v))) (fun v : Nat => v < 12) D k wf A r) (zz_XX D k wf A r) av.toArray s rm.cells rm.slots A) ⟨hx, hb, hml, hown, hts, hK, hA, hlocks, rfl, rfl⟩ ⟨hst, hT, htab⟩ ?_ ?_ ?_ s.heap [] _ hP hD hS hl
  · intro v u pc lv n h1 h2 hd hn he
    cases he
    intro H locs ls hP hD hS hl
    refine vx_ret (W.widen h1 h2 ?_)
    exact W.aret hx hb hr (Or.inl ⟨_, rfl⟩) (Or.inr ⟨_, rfl⟩) (fun t ht hW => ⟨⟨v, u, rfl, rfl, hn, by rw [ht]; exact hP, va_K.moved hW.alike hK, hD⟩, hS.F ht⟩) hS.2.2 hd
  · intro c9 u n h1 h2 he
    cases he
    intro H locs ls pc rest q ce hP hD hS hce hcv hcl
    exact vx_out (fun x hx => (htab x hx).elim) hlocks hce hcv hcl (fun t ht hal => ⟨c9, u, rfl, rfl, ⟨by rw [ht]; exact hP, va_K.moved hal hK, hD⟩, hS.F ht⟩) hS.2.2 h1 h2
  · intro c9 u n pc lv st h1 h2 he hth
    cases he
    intro H locs ls hP hD hS hl
    refine hth H locs ls _ hS hl _ _ _ _ _ h1 h2 hS.2.2 (fun t hal hz hk => ⟨c9, u, rfl, rfl, ⟨hP.kept (fun k9 q9 hq9 => hk _ ((hP k9 q9 hq9).lt)), va_K.moved hal hK, hD⟩, Nat.le_trans hS.1 hz, fun q h3 h4 => by rw [hk q (Nat.lt_of_lt_of_le h3 hS.1)]; exact hS.2.1 q h3 h4⟩) rfl
theorem zz_at_io {args : Array Value} {s : State} {Ts : List Cond} (hts : ∀ w ∈ Ts, w.before args s = true) (hin : ∀ w ∈ (vx_atS RX6 107 "java/lang/IndexOutOfBoundsException" ["java/lang/RuntimeException", "java/lang/Exception"]).filter goodWord, w ∈ Ts) (h : ∀ w ∈ zz_nws, va_Nw w s) : ∀ w ∈ vx_atS RX6 107 "java/lang/IndexOutOfBoundsException" ["java/lang/RuntimeException", "java/lang/Exception"], w.before args s = true :=
  vx_hat (B := zz_nws) (fun w hw => hts w (hin w hw)) (by decide +kernel) (fun w hw => va_Nw.use (by simp only [zz_nws, List.mem_cons, List.not_mem_nil, or_false] at hw; rcases hw with rfl | rfl | rfl | rfl | rfl <;> rfl) (h w hw))
theorem zz_gd_io (ik : Nat) : ∀ w ∈ Cond.classLink RX6 ik "java/lang/IndexOutOfBoundsException" :: Cond.initialized "java/lang/IndexOutOfBoundsException" :: vx_atS RX6 107 "java/lang/IndexOutOfBoundsException" ["java/lang/RuntimeException", "java/lang/Exception"], vx_ot w = true := by
  intro w hw
  rcases List.mem_cons.mp hw with rfl | hw
  · rfl
  rcases List.mem_cons.mp hw with rfl | hw
  · rfl
  · exact (show ∀ w ∈ vx_atS RX6 107 "java/lang/IndexOutOfBoundsException" ["java/lang/RuntimeException", "java/lang/Exception"], vx_ot w = true by decide +kernel) w hw
theorem zr_throw_io {X : zz_X} {cc : ByteArray} {Ts : List Cond} {k : Nat → ClassId} {nL : Nat} {R : Room} {n : Nat × Nat} {w : va_W} {pc ik is : Nat} {text : String} {lv : List (Nat × Value)} {st : List Value} (C : zz_ok X cc RX6 Ts k nL R) (T : zz_okT X) (hin : ∀ w ∈ (vx_atS RX6 107 "java/lang/IndexOutOfBoundsException" ["java/lang/RuntimeException", "java/lang/Exception"]).filter goodWord, w ∈ Ts) (hk : Cond.classLink RX6 ik "java/lang/IndexOutOfBoundsException" ∈ Ts) (hi : Cond.initialized "java/lang/IndexOutOfBoundsException" ∈ Ts) (hstr : (is, text) ∈ zz_strs)
    (d0 : decode cc pc = .ok (.new ik, 3)) (d3 : decode cc (pc + 3) = .ok (.dup, 1)) (d4 : decode cc (pc + 4) = .ok (.ldc is, 2)) (d6 : decode cc (pc + 6) = .ok (.invokespecial 107, 3)) (d9 : decode cc (pc + 9) = .ok (.athrow, 1)) (hR : 5 < R.frames ∧ (st.map fun v => v.category).sum + 82 ≤ R.locals) (hrc : n.1 + 1 ≤ R.cells ∧ n.2 + 6 ≤ R.slots) {c9 : Nat} (hc9 : zz_en c9 = "java/lang/IndexOutOfBoundsException")
    (hfin : (∀ (H : Heap) (locs : List Loc) (ls : Array Slot) (Q9 : State → Prop), va_S X.2.2.2.2.2.2.2.2.2.2.2.1 X.2.2.2.2.1.heap H locs → lv_has ls X.2.2.2.2.2.2.2.2.2.2.2.2.1 lv → (∀ (Qc : Array Value → State → Outcome → State → Prop) (XC : String → State → State → Prop) (mc ms : Nat) (free : Addr → Prop), n.1 + 1 ≤ mc → n.2 + 6 ≤ ms → (∀ z ∈ locs, free z.base) → (∀ t : State, X.2.2.2.2.1.vm.Alike t.vm → H.size ≤ t.heap.size → (∀ q : Nat, q < H.size → t.heap[q]? = H[q]?) → XC (zz_en c9) X.2.2.2.2.1 t) → Q9 = vx_MQ X.2.2.2.2.2.2.2.1 Qc XC X.2.2.2.2.2.2.1 X.2.2.2.2.1 mc ms free → W X.1 X.2.1 X.2.2.1 X.2.2.2.1 X.2.2.2.2.1 X.2.2.2.2.2.1 X.2.2.2.2.2.2.1 X.2.2.2.2.2.2.2.1 X.2.2.2.2.2.2.2.2.1 X.2.2.2.2.2.2.2.2.2.1 H locs n.1 n.2 Q9 (F0 X.2.2.2.2.2.1 pc ls st))) → zz_ww X n w pc lv st) : zz_ww X n w pc lv st := by
  refine hfin ?_
  obtain ⟨p, l, e, R0, s, m, args, below, meth, c, D, A, nL0, Q⟩ := X
  obtain ⟨hx, hb, hml, hown, hts, hK, hA, hlk, en, eR⟩ := C
  subst en eR
  obtain ⟨hl9, hT, htab⟩ := T
  intro H locs ls Q9 hS hl Qc XC mc ms free h1 h2 hf hXC hQ
  subst hQ
  rw [hc9] at hXC
  obtain ⟨sa, hsa⟩ := hT.2.2.1 _ hstr
  exact vx_throwS hx hb hl9 hown (by decide) (by decide) (hts _ hk) (hts _ hi) hsa (zz_at_io hts hin hT.2.2.2.1) (zz_gd_io ik) hT.1 hT.2.1 hS (by rw [hml]; exact hl.1) d0 d3 d4 d6 d9 (fun x hx => (htab x hx).elim) hR.1 hR.2 hrc.1 hrc.2 hlk hXC hf h1 h2
theorem zz_at_ia {args : Array Value} {s : State} {Ts : List Cond} (hts : ∀ w ∈ Ts, w.before args s = true) (hin : ∀ w ∈ (vx_atS RX6 118 "java/lang/IllegalArgumentException" ["java/lang/RuntimeException", "java/lang/Exception"]).filter goodWord, w ∈ Ts) (h : ∀ w ∈ zz_nws, va_Nw w s) : ∀ w ∈ vx_atS RX6 118 "java/lang/IllegalArgumentException" ["java/lang/RuntimeException", "java/lang/Exception"], w.before args s = true :=
  vx_hat (B := zz_nws) (fun w hw => hts w (hin w hw)) (by decide +kernel) (fun w hw => va_Nw.use (by simp only [zz_nws, List.mem_cons, List.not_mem_nil, or_false] at hw; rcases hw with rfl | rfl | rfl | rfl | rfl <;> rfl) (h w hw))
theorem zz_gd_ia (ik : Nat) : ∀ w ∈ Cond.classLink RX6 ik "java/lang/IllegalArgumentException" :: Cond.initialized "java/lang/IllegalArgumentException" :: vx_atS RX6 118 "java/lang/IllegalArgumentException" ["java/lang/RuntimeException", "java/lang/Exception"], vx_ot w = true := by
  intro w hw
  rcases List.mem_cons.mp hw with rfl | hw
  · rfl
  rcases List.mem_cons.mp hw with rfl | hw
  · rfl
  · exact (show ∀ w ∈ vx_atS RX6 118 "java/lang/IllegalArgumentException" ["java/lang/RuntimeException", "java/lang/Exception"], vx_ot w = true by decide +kernel) w hw
theorem zr_throw_ia {X : zz_X} {cc : ByteArray} {Ts : List Cond} {k : Nat → ClassId} {nL : Nat} {R : Room} {n : Nat × Nat} {w : va_W} {pc ik is : Nat} {text : String} {lv : List (Nat × Value)} {st : List Value} (C : zz_ok X cc RX6 Ts k nL R) (T : zz_okT X) (hin : ∀ w ∈ (vx_atS RX6 118 "java/lang/IllegalArgumentException" ["java/lang/RuntimeException", "java/lang/Exception"]).filter goodWord, w ∈ Ts) (hk : Cond.classLink RX6 ik "java/lang/IllegalArgumentException" ∈ Ts) (hi : Cond.initialized "java/lang/IllegalArgumentException" ∈ Ts) (hstr : (is, text) ∈ zz_strs)
    (d0 : decode cc pc = .ok (.new ik, 3)) (d3 : decode cc (pc + 3) = .ok (.dup, 1)) (d4 : decode cc (pc + 4) = .ok (.ldc is, 2)) (d6 : decode cc (pc + 6) = .ok (.invokespecial 118, 3)) (d9 : decode cc (pc + 9) = .ok (.athrow, 1)) (hR : 5 < R.frames ∧ (st.map fun v => v.category).sum + 82 ≤ R.locals) (hrc : n.1 + 1 ≤ R.cells ∧ n.2 + 6 ≤ R.slots) {c9 : Nat} (hc9 : zz_en c9 = "java/lang/IllegalArgumentException")
    (hfin : (∀ (H : Heap) (locs : List Loc) (ls : Array Slot) (Q9 : State → Prop), va_S X.2.2.2.2.2.2.2.2.2.2.2.1 X.2.2.2.2.1.heap H locs → lv_has ls X.2.2.2.2.2.2.2.2.2.2.2.2.1 lv → (∀ (Qc : Array Value → State → Outcome → State → Prop) (XC : String → State → State → Prop) (mc ms : Nat) (free : Addr → Prop), n.1 + 1 ≤ mc → n.2 + 6 ≤ ms → (∀ z ∈ locs, free z.base) → (∀ t : State, X.2.2.2.2.1.vm.Alike t.vm → H.size ≤ t.heap.size → (∀ q : Nat, q < H.size → t.heap[q]? = H[q]?) → XC (zz_en c9) X.2.2.2.2.1 t) → Q9 = vx_MQ X.2.2.2.2.2.2.2.1 Qc XC X.2.2.2.2.2.2.1 X.2.2.2.2.1 mc ms free → W X.1 X.2.1 X.2.2.1 X.2.2.2.1 X.2.2.2.2.1 X.2.2.2.2.2.1 X.2.2.2.2.2.2.1 X.2.2.2.2.2.2.2.1 X.2.2.2.2.2.2.2.2.1 X.2.2.2.2.2.2.2.2.2.1 H locs n.1 n.2 Q9 (F0 X.2.2.2.2.2.1 pc ls st))) → zz_ww X n w pc lv st) : zz_ww X n w pc lv st := by
  refine hfin ?_
  obtain ⟨p, l, e, R0, s, m, args, below, meth, c, D, A, nL0, Q⟩ := X
  obtain ⟨hx, hb, hml, hown, hts, hK, hA, hlk, en, eR⟩ := C
  subst en eR
  obtain ⟨hl9, hT, htab⟩ := T
  intro H locs ls Q9 hS hl Qc XC mc ms free h1 h2 hf hXC hQ
  subst hQ
  rw [hc9] at hXC
  obtain ⟨sa, hsa⟩ := hT.2.2.1 _ hstr
  exact vx_throwS hx hb hl9 hown (by decide) (by decide) (hts _ hk) (hts _ hi) hsa (zz_at_ia hts hin hT.2.2.2.1) (zz_gd_ia ik) hT.1 hT.2.1 hS (by rw [hml]; exact hl.1) d0 d3 d4 d6 d9 (fun x hx => (htab x hx).elim) hR.1 hR.2 hrc.1 hrc.2 hlk hXC hf h1 h2
set_option maxHeartbeats 4000000 in
theorem zr_cX {X : zz_X} {cc : ByteArray} {own : String} {Ts : List Cond} {k : Nat → ClassId} {nL : Nat} {R : Room} {n n' : Nat × Nat} {pc pc' : Nat} {lv : List (Nat × Value)} {st st0 : List Value} {V σ τ : Type} {enc : V → Value} {pv : V → Prop} {r : τ ⊕ (Nat × σ)} {wf : σ → va_W} {S : σ} {Cn : String} {index maxL na : Nat} {y : MethodName} {bytes : ByteArray} {ret : Option FieldType} {ws ws' : List Cond} {rm : Room} {b : Nat} {As : List Value} {F : Option ((V × σ) ⊕ (Nat × σ))} {K : V → σ → Option (τ ⊕ (Nat × σ))}
    (C : zz_ok X cc own Ts k nL R) (T : zz_okT X) (hM : ∀ (l : Launch) (D : va_G) (r : (V × σ) ⊕ (Nat × σ)), l.stackTraces = false → F = some r → zz_MX enc pv l y ws rm D k wf (.ref b :: As) S r) (hG : GoodIn Ts (wsV own index Cn y ws)) (hw : ws = Cond.code y bytes maxL ret :: ws') (hd9 : y.cls = Cn ∧ y.cls ≠ "java/lang/invoke/MethodHandle" ∧ y.cls ≠ "java/lang/invoke/VarHandle" ∧ (parseMethodDescriptor y.desc).map (fun d => d.parameters.length) = some na)
    (hR : rm.frames + 1 ≤ R.frames ∧ 8 + (maxL + 11) + rm.locals ≤ R.locals) (hrc : n.1 + rm.cells ≤ R.cells ∧ n.2 + rm.slots ≤ R.slots) (hn : As.length = na) (hrv : ∃ (q0 ci : Nat) (fs : List Value) (T : u_T) (N : Nat), (wf S)[q0]? = some (b, .inr (ci, fs)) ∧ zz_cl[ci]? = some (Cn, T, N)) (hst : (st.map fun v => v.category).sum ≤ 8) (hs : As.reverse ++ .ref b :: st = st0)
    (hd : decode cc pc = .ok (.invokevirtual index, 3)) (hp : pc + 3 = pc') (hn' : (n.1 + rm.cells, n.2 + rm.slots) = n') (hq : zz_bx F K = some r) (hox : ∀ (c9 : Nat) (u : σ), F = some (.inr (c9, u)) → some (Sum.inr (c9, u)) = some r → zz_wx X n' (wf u) c9) (h : ∀ (v : V) (u : σ), pv v → F = some (.inl (v, u)) → K v u = some r → zz_ww X n' (wf u) pc' lv (enc v :: st)) : zz_ww X n (wf S) pc lv st0 := by
  subst hp
  subst hs
  subst hn'
  obtain ⟨p, l, e, R0, s, m, args, below, meth, c, D, A, nL0, Q⟩ := X
  obtain ⟨hx, hb, hml, hown, hts, hK, hA, hlk, en, eR⟩ := C
  subst en eR
  intro H locs ls hP hD hS hl
  obtain ⟨hl9, hT, htab⟩ := T
  have hF : ∀ q, va_A (wf S) H.size q → A q := fun q hq => hq.elim (fun ⟨k9, e9, h9⟩ => hD.2 k9 (q, e9) h9) (fun h9 => hA q (Nat.le_trans hS.1 h9))
  obtain ⟨r0, hr0⟩ : ∃ r0, F = some r0 := by
    cases F with
    | none => cases hq
    | some r0 => exact ⟨r0, rfl⟩
  have hr := vx_runV (As := As) (rest := st) (g := F0 m pc ls (As.reverse ++ .ref b :: st)) (cells := n.1) (slots := n.2) (locs := locs) (e := e) (below := below) (meth := meth) ⟨hx, hb, hml, hown, hts⟩ (hM l D r0 hl9 hr0 H.size) (cwV na hts hG hw rfl rfl hd9 hR) ⟨zz_blindX, (by obtain ⟨q0, ci, fs, T, N, he, hc⟩ := hrv; exact va_recv hK hP hc he), fun U hU hW => ⟨rfl, ⟨by rw [hU], by rw [hU]; exact hP, va_K.moved hW.alike hK, hD.weaken (fun _ _ _ _ => trivial)⟩, by rw [hU]; exact hT.go hW hS hF⟩⟩ rfl hn hl.1 rfl (lv_room hst) hd hrc
  intro T0 hT0 X0
  rcases hr T0 hT0 X0 with ⟨v, st₀, t, T', L, h0, X', hL, e1, e2, ⟨⟨v9, u, hv, hp, hpv, hb9⟩, hFr⟩, stp⟩ | ⟨q, st₀, t, T', L, E, ce, h0, X', hL, e1, e2, ⟨c9, u, hp, hE, hb9, hFr⟩, hce, hcv, hcl, stp⟩
  · cases hv
    subst hp
    rw [hr0] at hq
    obtain ⟨k1, k2, k3⟩ := vx_keep h0 e1 hS (fun q _ h => hF q h) hF hL hFr
    obtain ⟨hP1, hK1, hD1⟩ := hb9
    rw [← e1] at hP1
    obtain ⟨t2, a1, b1⟩ := h v9 u hpv hr0 hq T'.heap (locs ++ L) ls hP1 (hD1.weaken (fun _ _ _ h9 => hF _ h9)) k3 hl T' rfl X'
    exact ⟨t2, stp t2 a1, b1⟩
  · subst hp
    subst hE
    rw [hr0] at hq
    obtain ⟨k1, k2, k3⟩ := vx_keep h0 e1 hS (fun q _ h => hF q h) hF hL hFr
    obtain ⟨hP1, hK1, hD1⟩ := hb9
    rw [← e1] at hP1
    obtain ⟨t2, a1, b1⟩ := hox c9 u hr0 hq T'.heap (locs ++ L) ls pc st q ce hP1 (hD1.weaken (fun _ _ _ h9 => hF _ h9)) k3 (by rw [e1]; exact hce) hcv hcl T' rfl X'
    exact ⟨t2, stp.trans a1, b1⟩

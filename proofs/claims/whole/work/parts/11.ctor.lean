/-! CONSTRUCTORS: worlds that grow; the order of the cells doesn't matter -/
theorem zz_P_mem {D : va_G} {cl : List vw_C} {w : va_W} {H : Heap} : va_P D cl w H ↔ ∀ q ∈ w, va_at D cl q H :=
  ⟨fun h q hq => by obtain ⟨i, hi⟩ := List.getElem?_of_mem hq; exact h i q hi, fun h i q hi => h q (List.mem_of_getElem? hi)⟩
theorem zz_D_mem {A : Nat → Prop} {w : va_W} : va_D A w ↔ w.Pairwise (fun a b => a.1 ≠ b.1) ∧ ∀ q ∈ w, A q.1 := by
  constructor
  · intro h
    refine ⟨List.pairwise_iff_getElem.mpr ?_, fun q hq => by obtain ⟨i, hi⟩ := List.getElem?_of_mem hq; exact h.2 i q hi⟩
    intro i j hi hj hij he
    have := h.1 i j w[i] w[j] (List.getElem?_eq_getElem hi) (List.getElem?_eq_getElem hj) he
    omega
  · intro h
    refine ⟨?_, fun i q hi => h.2 q (List.mem_of_getElem? hi)⟩
    intro i j a b hi hj he
    obtain ⟨hi1, hi2⟩ := List.getElem?_eq_some_iff.mp hi
    obtain ⟨hj1, hj2⟩ := List.getElem?_eq_some_iff.mp hj
    rcases Nat.lt_trichotomy i j with q | q | q
    · exact absurd (by rw [hi2, hj2]; exact he) (List.pairwise_iff_getElem.mp h.1 i j hi1 hj1 q)
    · exact q
    · exact absurd (by rw [hi2, hj2]; exact he.symm) (List.pairwise_iff_getElem.mp h.1 j i hj1 hi1 q)
theorem zz_P_perm {D : va_G} {cl : List vw_C} {w w' : va_W} {H : Heap} (hp : List.Perm w w') (h : va_P D cl w H) : va_P D cl w' H := zz_P_mem.mpr fun q hq => zz_P_mem.mp h q (hp.mem_iff.mpr hq)
theorem zz_D_perm {A : Nat → Prop} {w w' : va_W} (hp : List.Perm w w') (h : va_D A w) : va_D A w' := by
  obtain ⟨h1, h2⟩ := zz_D_mem.mp h
  exact zz_D_mem.mpr ⟨(hp.pairwise_iff (fun {x y} h => Ne.symm h)).mp h1, fun q hq => h2 q (hp.mem_iff.mpr hq)⟩
def zz_okI (X : zz_X) : Prop := match X with
  | (_, _, _, _, _, _, _, _, meth, _, _, _, _, _) => meth.name = "<init>"
def zz_okE (X : zz_X) (Ex : State → Prop) : Prop := match X with
  | (_, _, _, _, s, _, _, _, _, _, _, _, _, _) => Ex s
section ZC
variable {X : zz_X} {cc : ByteArray} {own : String} {Ts : List Cond} {k : Nat → ClassId} {nL : Nat} {R : Room} {n n' : Nat × Nat} {w w' : va_W} {pc pc' : Nat} {lv lv' : List (Nat × Value)} {st st0 : List Value}
theorem zr_perm (hp : List.Perm w w') (h : zz_ww X n w' pc lv st) : zz_ww X n w pc lv st := by
  obtain ⟨p, l, e, R0, s, m, args, below, meth, c, D, A, nL0, Q⟩ := X
  intro H locs ls hP hD hS hl
  exact h H locs ls (zz_P_perm hp hP) (zz_D_perm hp hD) hS hl
theorem zr_objinit (C : zz_ok X cc own Ts k nL R) {a index : Nat} (h1 : Cond.methodLink own index objectInit ∈ Ts) (h2 : Cond.instanceMethod objectInit ∈ Ts) (h3 : Cond.code objectInit ⟨#[0xb1]⟩ 1 none ∈ Ts) (hR : 1 ≤ R.frames ∧ (st.map fun v => v.category).sum + 12 ≤ R.locals) (hd : decode cc pc = .ok (.invokespecial index, 3)) (hp : pc + 3 = pc') (h : zz_ww X n w pc' lv st) : zz_ww X n w pc lv (.ref a :: st) := by
  subst hp
  obtain ⟨p, l, e, R0, s, m, args, below, meth, c, D, A, nL0, Q⟩ := X
  obtain ⟨hx, hb, hml, hown, hts, hK, hA, hlk, en, eR⟩ := C
  subst en eR
  intro H locs ls hP hD hS hl
  refine W.objInit hx hb hown (hts _ h1) (hts _ h2) (hts _ h3) rfl (by rw [hml]; exact hl.1) rfl hd hR.1 (by show 2 * 0 + _ + 12 ≤ _; have := hR.2; omega) ?_
  exact h H locs ls hP hD hS hl
theorem zr_mmin (C : zz_ok X cc own Ts k nL R) {index : Nat} {x y : Int32} (h1 : Cond.methodLink own index Lib.Math.min.name ∈ Ts) (h2 : Cond.static Lib.Math.min.name ∈ Ts) (h3 : Cond.initialized "java/lang/Math" ∈ Ts) (h4 : Cond.code Lib.Math.min.name Lib.Math.min.code 2 (some .int) ∈ Ts) (hR : 1 ≤ R.frames ∧ (st.map fun v => v.category).sum + 13 ≤ R.locals) (hrc : n.1 ≤ R.cells ∧ n.2 ≤ R.slots) (hd : decode cc pc = .ok (.invokestatic index, 3)) (hp : pc + 3 = pc') (h : zz_ww X n w pc' lv (.int (if y < x then y else x) :: st)) : zz_ww X n w pc lv (.int y :: .int x :: st) := by
  subst hp
  obtain ⟨p, l, e, R0, s, m, args, below, meth, c, D, A, nL0, Q⟩ := X
  obtain ⟨hx, hb, hml, hown, hts, hK, hA, hlk, en, eR⟩ := C
  subst en eR
  intro H locs ls hP hD hS hl
  exact va_mmin hx hb (by rw [hml]; exact hl.1.symm) hown (hts _ h1) (hts _ h2) (hts _ h3) (hts _ h4) hR.1 hR.2 hrc.1 hrc.2 hd (h H locs ls hP hD hS hl)
theorem zr_mmax (C : zz_ok X cc own Ts k nL R) {index : Nat} {x y : Int32} (h1 : Cond.methodLink own index Lib.Math.max.name ∈ Ts) (h2 : Cond.static Lib.Math.max.name ∈ Ts) (h3 : Cond.initialized "java/lang/Math" ∈ Ts) (h4 : Cond.code Lib.Math.max.name Lib.Math.max.code 2 (some .int) ∈ Ts) (hR : 1 ≤ R.frames ∧ (st.map fun v => v.category).sum + 13 ≤ R.locals) (hrc : n.1 ≤ R.cells ∧ n.2 ≤ R.slots) (hd : decode cc pc = .ok (.invokestatic index, 3)) (hp : pc + 3 = pc') (h : zz_ww X n w pc' lv (.int (if x < y then y else x) :: st)) : zz_ww X n w pc lv (.int y :: .int x :: st) := by
  subst hp
  obtain ⟨p, l, e, R0, s, m, args, below, meth, c, D, A, nL0, Q⟩ := X
  obtain ⟨hx, hb, hml, hown, hts, hK, hA, hlk, en, eR⟩ := C
  subst en eR
  intro H locs ls hP hD hS hl
  exact va_mmax hx hb (by rw [hml]; exact hl.1.symm) hown (hts _ h1) (hts _ h2) (hts _ h3) (hts _ h4) hR.1 hR.2 hrc.1 hrc.2 hd (h H locs ls hP hD hS hl)
theorem zr_putF (C : zz_ok X cc own Ts k nL R) (I : zz_okI X) {T : u_T} {N ci index a : Nat} {fs : List Value} {v : Value} {ty : FieldType} (hin : ∀ w ∈ u_ws own T N, w ∈ Ts) (ty0 : Nat → FieldType) (hty : ∀ k, k < N → parseFieldDescriptor (T k).2.2.1 = some (ty0 k)) (hnm : ∀ a, a < N → ∀ b, b < N → a ≠ b → (T a).2.1 ≠ (T b).2.1) (q0 f : Nat) (he : w[q0]? = some (a, .inr (ci, fs))) (hc : zz_cl[ci]? = some (own, T, N)) (hf : f < N) (hm : Cond.fieldLink own index (T f).1 (T f).2.1 (T f).2.2.1 ∈ Ts) (hfin : (T f).2.2.2 = true) (hdecl : (T f).1 = own) (hde : parseFieldDescriptor (T f).2.2.1 = some ty) (hn : narrow ty v = v) (hfit : fits ty v = true) (hlen : f < fs.length) (hw : w.set q0 (a, .inr (ci, fs.set f v)) = w') (hd : decode cc pc = .ok (.putfield index, 3)) (hp : pc + 3 = pc') (h : zz_ww X n w' pc' lv st) : zz_ww X n w pc lv (v :: .ref a :: st) := by
  subst hp
  subst hw
  obtain ⟨p, l, e, R0, s, m, args, below, meth, c, D, A, nL0, Q⟩ := X
  obtain ⟨hx, hb, hml, hown, hts, hK, hA, hlk, en, eR⟩ := C
  subst en eR
  intro H locs ls hP hD hS hl
  exact va_putF hx hb hts hin ty0 hty hnm hown hK hP hD hS q0 he hc f hf (hts _ hm) (fun _ h9 => h9) hfin I hdecl hde hn hfit hlen hd (fun H1 locs1 hP1 hD1 hS1 => h H1 locs1 ls hP1 hD1 hS1 hl)
theorem zr_new (C : zz_ok X cc own Ts k nL R) {Cn : String} {T : u_T} {N ci index : Nat} {fs : List Value} (hin : ∀ w ∈ u_ws Cn T N, w ∈ Ts) (ty0 : Nat → FieldType) (hty : ∀ k, k < N → parseFieldDescriptor (T k).2.2.1 = some (ty0 k)) (h1 : Cond.classLink own index Cn ∈ Ts) (h2 : Cond.instantiable Cn N ∈ Ts) (h3 : Cond.initialized Cn ∈ Ts) (hc : zz_cl[ci]? = some (Cn, T, N)) (hfs : ∀ j, j < N → defaultValue (ty0 j) = vp_V fs j) (hrc : n.1 + 1 ≤ R.cells ∧ n.2 + N ≤ R.slots) (hd : decode cc pc = .ok (.new index, 3)) (hp : pc + 3 = pc') (hn' : (n.1 + 1, n.2 + N) = n') (h : ∀ q : Nat, zz_ww X n' (w ++ [(q, .inr (ci, fs))]) pc' lv (.ref q :: st)) : zz_ww X n w pc lv st := by
  subst hp
  subst hn'
  obtain ⟨p, l, e, R0, s, m, args, below, meth, c, D, A, nL0, Q⟩ := X
  obtain ⟨hx, hb, hml, hown, hts, hK, hA, hlk, en, eR⟩ := C
  subst en eR
  intro H locs ls hP hD hS hl
  exact va_new hx hb hts hin ty0 hty hown (hts _ h1) (hts _ h2) (hts _ h3) hK hP hD hS hA hc hfs hrc.1 hrc.2 hd (fun q H1 hP1 hD1 hS1 => h q H1 locs ls hP1 hD1 hS1 hl)
theorem zr_newq (C : zz_ok X cc own Ts k nL R) {index : Nat} (h1 : Cond.classLink own index "GridRipUp$Net" ∈ Ts) {Ex : State → Prop} (E : zz_okE X Ex) (hE : ∀ U, Ex U → va_AO "GridRipUp$Net" U) {x : Int32} {N : Nat} (hxn : x = nI N) (hN : N ≤ 1000) (hrc : n.1 + 1 ≤ R.cells ∧ n.2 + N ≤ R.slots) (hd : decode cc pc = .ok (.anewarray index, 3)) (hp : pc + 3 = pc') (hn' : (n.1 + 1, n.2 + N) = n') (h : ∀ q : Nat, zz_ww X n' (w ++ [(q, .inl (k 3, N, .inr (.inr (.inr (.inr (fun _ => none))))))]) pc' lv (.ref q :: st)) : zz_ww X n w pc lv (.int x :: st) := by
  subst hp
  subst hn'
  subst hxn
  obtain ⟨p, l, e, R0, s, m, args, below, meth, c, D, A, nL0, Q⟩ := X
  obtain ⟨hx, hb, hml, hown, hts, hK, hA, hlk, en, eR⟩ := C
  subst en eR
  intro H locs ls hP hD hS hl
  refine va_newq (C := "GridRipUp$Net") hx hb hown (hts _ h1) (hE _ E) hK hP hD hS hA (nI_pos (by omega)) (nI_clamp (by omega)) (by omega) hrc.1 hrc.2 hd (fun q cA H1 hK1 hP1 hD1 hS1 => ?_)
  have e1 := (hK1.2 4 (cA, .object "GridRipUp$Net") rfl).2
  have e2 := (hK1.2 3 (k 3, .object "GridRipUp$Net") rfl).2
  obtain ⟨_, _, _, _, _, f1⟩ := e1
  obtain ⟨_, _, _, _, _, f2⟩ := e2
  have : cA = k 3 := Option.some.inj (f1.symm.trans f2)
  subst this
  exact h q H1 locs ls hP1 hD1 hS1 hl
theorem zr_astq (C : zz_ok X cc own Ts k nL R) {a N v : Nat} {f : Nat → Option Nat} {vs : List Value} {x : Int32} (q0 qk : Nat) (he : w[q0]? = some (a, .inl (k 3, N, .inr (.inr (.inr (.inr f)))))) (hv : w[qk]? = some (v, .inr (2, vs))) (hin : vp_in x N) (hw : w.set q0 (a, .inl (k 3, N, .inr (.inr (.inr (.inr (va_up f x.toNatClampNeg (some v))))))) = w') (hd : decode cc pc = .ok (.aastore, 1)) (hp : pc + 1 = pc') (h : zz_ww X n w' pc' lv st) : zz_ww X n w pc lv (.ref v :: .int x :: .ref a :: st) := by
  subst hp
  subst hw
  obtain ⟨p, l, e, R0, s, m, args, below, meth, c, D, A, nL0, Q⟩ := X
  obtain ⟨hx, hb, hml, hown, hts, hK, hA, hlk, en, eR⟩ := C
  subst en eR
  intro H locs ls hP hD hS hl
  exact va_astq hx hb hK hP hD hS q0 3 qk 2 he rfl hv rfl hin hd (fun H1 locs1 hP1 hD1 hS1 => h H1 locs1 ls hP1 hD1 hS1 hl)
theorem zr_newaI (C : zz_ok X cc own Ts k nL R) (h1 : Cond.arrayClass .int ∈ Ts) {x : Int32} {N : Nat} (M : Nat) (hxn : x = nI N) (hN : N ≤ M) (hM : M ≤ 1000000) (hrc : n.1 + 1 ≤ R.cells ∧ n.2 + M ≤ R.slots) (hd : decode cc pc = .ok (.newarray .int, 2)) (hp : pc + 2 = pc') (hn' : (n.1 + 1, n.2 + M) = n') (h : ∀ q : Nat, zz_ww X n' (w ++ [(q, .inl (k 0, N, .inl (fun _ => 0)))]) pc' lv (.ref q :: st)) : zz_ww X n w pc lv (.int x :: st) := by
  subst hp
  subst hn'
  subst hxn
  obtain ⟨p, l, e, R0, s, m, args, below, meth, c, D, A, nL0, Q⟩ := X
  obtain ⟨hx, hb, hml, hown, hts, hK, hA, hlk, en, eR⟩ := C
  subst en eR
  intro H locs ls hP hD hS hl
  refine va_newa (atype := .int) (ty := .int) (N' := N) (a0 := (N, .inl (fun _ => 0))) hx hb (hts _ h1) rfl hK hP hD hS hA (fun _ => rfl) (nI_pos (by omega)) (nI_clamp (by omega)) (by show N * _ ≤ _; simp [componentBytes, newarray.typeOf]; omega) hrc.1 (by omega) hd (fun q cA H1 hK1 hP1 hD1 hS1 => ?_)
  have e1 := (hK1.2 4 (cA, .int) rfl).2
  have e2 := (hK1.2 0 (k 0, .int) rfl).2
  have : cA = k 0 := Option.some.inj (Eq.trans (Eq.symm e1) e2)
  subst this
  exact W.widen (Nat.le_refl _) (by omega) (h q H1 locs ls hP1 hD1 hS1 hl)
theorem zr_newaJ (C : zz_ok X cc own Ts k nL R) (h1 : Cond.arrayClass .long ∈ Ts) {x : Int32} {N : Nat} (M : Nat) (hxn : x = nI N) (hN : N ≤ M) (hM : M ≤ 1000000) (hrc : n.1 + 1 ≤ R.cells ∧ n.2 + M ≤ R.slots) (hd : decode cc pc = .ok (.newarray .long, 2)) (hp : pc + 2 = pc') (hn' : (n.1 + 1, n.2 + M) = n') (h : ∀ q : Nat, zz_ww X n' (w ++ [(q, .inl (k 1, N, .inr (.inl (fun _ => 0))))]) pc' lv (.ref q :: st)) : zz_ww X n w pc lv (.int x :: st) := by
  subst hp
  subst hn'
  subst hxn
  obtain ⟨p, l, e, R0, s, m, args, below, meth, c, D, A, nL0, Q⟩ := X
  obtain ⟨hx, hb, hml, hown, hts, hK, hA, hlk, en, eR⟩ := C
  subst en eR
  intro H locs ls hP hD hS hl
  refine va_newa (atype := .long) (ty := .long) (N' := N) (a0 := (N, .inr (.inl (fun _ => 0)))) hx hb (hts _ h1) rfl hK hP hD hS hA (fun _ => rfl) (nI_pos (by omega)) (nI_clamp (by omega)) (by show N * _ ≤ _; simp [componentBytes, newarray.typeOf]; omega) hrc.1 (by omega) hd (fun q cA H1 hK1 hP1 hD1 hS1 => ?_)
  have e1 := (hK1.2 4 (cA, .long) rfl).2
  have e2 := (hK1.2 1 (k 1, .long) rfl).2
  have : cA = k 1 := Option.some.inj (Eq.trans (Eq.symm e1) e2)
  subst this
  exact W.widen (Nat.le_refl _) (by omega) (h q H1 locs ls hP1 hD1 hS1 hl)
theorem zr_newaZ (C : zz_ok X cc own Ts k nL R) (h1 : Cond.arrayClass .boolean ∈ Ts) {x : Int32} {N : Nat} (M : Nat) (hxn : x = nI N) (hN : N ≤ M) (hM : M ≤ 1000000) (hrc : n.1 + 1 ≤ R.cells ∧ n.2 + M ≤ R.slots) (hd : decode cc pc = .ok (.newarray .boolean, 2)) (hp : pc + 2 = pc') (hn' : (n.1 + 1, n.2 + M) = n') (h : ∀ q : Nat, zz_ww X n' (w ++ [(q, .inl (k 2, N, .inl (fun _ => 0)))]) pc' lv (.ref q :: st)) : zz_ww X n w pc lv (.int x :: st) := by
  subst hp
  subst hn'
  subst hxn
  obtain ⟨p, l, e, R0, s, m, args, below, meth, c, D, A, nL0, Q⟩ := X
  obtain ⟨hx, hb, hml, hown, hts, hK, hA, hlk, en, eR⟩ := C
  subst en eR
  intro H locs ls hP hD hS hl
  refine va_newa (atype := .boolean) (ty := .boolean) (N' := N) (a0 := (N, .inl (fun _ => 0))) hx hb (hts _ h1) rfl hK hP hD hS hA (fun _ => rfl) (nI_pos (by omega)) (nI_clamp (by omega)) (by show N * _ ≤ _; simp [componentBytes, newarray.typeOf]; omega) hrc.1 (by omega) hd (fun q cA H1 hK1 hP1 hD1 hS1 => ?_)
  have e1 := (hK1.2 4 (cA, .boolean) rfl).2
  have e2 := (hK1.2 2 (k 2, .boolean) rfl).2
  have : cA = k 2 := Option.some.inj (Eq.trans (Eq.symm e1) e2)
  subst this
  exact W.widen (Nat.le_refl _) (by omega) (h q H1 locs ls hP1 hD1 hS1 hl)
end ZC
def zz_MC (l : Launch) (y : MethodName) (ws : List Cond) (rm : Room) (D : va_G) (k : Nat → ClassId) (Ex : State → Prop) (av : List Value) (w0 : va_W) (Po : va_W → Prop) : Prop := ∀ sz : Nat, Met l y ws rm (va_Pc av (fun U => zz_Pr D k w0 sz U ∧ Ex U)) (va_Qv Po (zz_Po D k id (va_A w0 sz)) (va_A w0 sz)) rm.cells rm.slots (va_A w0 sz)
set_option maxHeartbeats 4000000 in
theorem zz_metC {l : Launch} {y : MethodName} {ws ws' : List Cond} {rm : Room} {D : va_G} {k : Nat → ClassId} {Ex : State → Prop} {av : List Value} {w0 : va_W} {Po : va_W → Prop} {cc : ByteArray} {nL : Nat} (hy : plainName y.cls = true) (hyn : y.name = "<init>") (hw : ws = Cond.code y cc nL none :: ws') (hlen : (lg_sl av).length ≤ nL)
    (body : ∀ X : zz_X, zz_ok X cc y.cls ws k nL rm → zz_okI X → zz_okE X Ex → (∀ (u : va_W) (pc : Nat) (lv : List (Nat × Value)) (n : Nat × Nat), n.1 ≤ rm.cells → n.2 ≤ rm.slots → decode cc pc = .ok (.return_, 1) → Po u → zz_ww X n u pc lv []) → zz_ww X (0, 0) w0 0 (lv_args 0 av) []) : zz_MC l y ws rm D k Ex av w0 Po := by
  intro sz
  refine Met.ofW (cc := cc) (maxL := nL) (ret := none) hy hw ?_
  intro p e s m args below meth c s₁ B hml hv
  obtain ⟨rfl, ⟨hsz, hP, hK, hD0⟩, hEx⟩ := hv
  have hx := B.exec
  have hb := B.bytes
  have hr := B.returns
  have hts := atoms_spec (ws := ws) B.pre
  have hown : s.vm.findClass y.cls = some m.cls := findClass_of_methodNamed B.named
  have hlocks := B.notSynchronized
  have hin : meth.name = "<init>" := (name_of_methodNamed B.named B.method).1.trans hyn
  subst hsz
  have hD := hD0.self (sz := s.heap.size)
  generalize hAe : va_A w0 s.heap.size = A at hD ⊢
  have hA : ∀ q : Nat, s.heap.size ≤ q → A q := fun q h => by rw [← hAe]; exact Or.inr h
  have hS : va_S A s.heap s.heap [] := va_S.rf
  have hl := lv_entry av (n := nL) hlen
  rw [lg_entry_eq]
  refine body (p, l, e, rm, s, m, av.toArray, below, meth, c, D, A, nL, MQ below (va_Qv Po (zz_Po D k id A) A) av.toArray s rm.cells rm.slots A) ⟨hx, hb, hml, hown, hts, hK, hA, hlocks, rfl, rfl⟩ hin hEx ?_ s.heap [] _ hP hD hS hl
  intro u pc lv n h1 h2 hd he
  intro H locs ls hP hD hS hl
  refine W.widen h1 h2 ?_
  exact W.vret hx hb hr (fun t ht hW => ⟨⟨u, rfl, he, by rw [ht]; exact hP, va_K.moved hW.alike hK, hD⟩, hS.F ht⟩) hS.2.2 hd
/-- the frame: the rest's cells stay -/
theorem zz_frame {D : va_G} {A : Nat → Prop} {wr wc u : va_W} {H H1 : Heap} (hP : va_P D zz_cl (wr ++ wc) H) (hD : va_D A (wr ++ wc)) (hF : ∀ q, va_A wc H.size q → A q) (hk : ∀ q : Nat, q < H.size → ¬ va_A wc H.size q → H1[q]? = H[q]?) (hP1 : va_P D zz_cl u H1) (hD1 : va_D (va_A wc H.size) u) : va_P D zz_cl (wr ++ u) H1 ∧ va_D A (wr ++ u) := by
  have hPm := zz_P_mem.mp hP
  obtain ⟨hD2, hD3⟩ := zz_D_mem.mp hD
  have ap : ∀ q ∈ wr, q.1 < H.size ∧ ¬ va_A wc H.size q.1 := by
    intro q hq
    have hl := (hPm q (List.mem_append_left _ hq)).lt
    refine ⟨hl, fun h => ?_⟩
    rcases h with ⟨j, e, h⟩ | h
    · exact (List.pairwise_append.mp hD2).2.2 q hq _ (List.mem_of_getElem? h) rfl
    · omega
  refine ⟨zz_P_mem.mpr fun q hq => ?_, zz_D_mem.mpr ⟨List.pairwise_append.mpr ⟨(List.pairwise_append.mp hD2).1, (zz_D_mem.mp hD1).1, fun a ha b hb he => ?_⟩, fun q hq => ?_⟩⟩
  · rcases List.mem_append.mp hq with h | h
    · exact (hPm q (List.mem_append_left _ h)).kept (hk q.1 (ap q h).1 (ap q h).2)
    · exact zz_P_mem.mp hP1 q h
  · exact (ap a ha).2 (by rw [he]; exact (zz_D_mem.mp hD1).2 b hb)
  · rcases List.mem_append.mp hq with h | h
    · exact hD3 q (List.mem_append_left _ h)
    · exact hF _ ((zz_D_mem.mp hD1).2 q h)
theorem zz_part {D : va_G} {A : Nat → Prop} {wr wc : va_W} {H : Heap} (hP : va_P D zz_cl (wr ++ wc) H) (hD : va_D A (wr ++ wc)) : va_P D zz_cl wc H ∧ va_D A wc :=
  ⟨zz_P_mem.mpr fun q hq => zz_P_mem.mp hP q (List.mem_append_right _ hq), zz_D_mem.mpr ⟨(List.pairwise_append.mp (zz_D_mem.mp hD).1).2.1, fun q hq => (zz_D_mem.mp hD).2 q (List.mem_append_right _ hq)⟩⟩
theorem zz_blindC {D : va_G} {k : Nat → ClassId} {w : va_W} {sz : Nat} {av : List Value} {Ex : State → Prop} (hE : ∀ (U : State) (g : JFrame) (mk : MethodId) (a : Array Value), Ex U → Ex (U.calling g mk a)) : FrameBlind (va_Pc av (fun U => zz_Pr D k w sz U ∧ Ex U)) := fun a U g mk q => by
  obtain ⟨q0, ⟨q1, qP, qK, qD⟩, qE⟩ := q
  exact ⟨q0, ⟨q1, qP, va_K.moved (u := U) (U := U.calling g mk a) (Vm.Alike.refl U.vm) qK, qD⟩, hE _ _ _ _ qE⟩
set_option maxHeartbeats 4000000 in
theorem zr_cI {X : zz_X} {cc : ByteArray} {own : String} {Ts : List Cond} {k : Nat → ClassId} {nL : Nat} {R : Room} {n n' : Nat × Nat} {pc pc' : Nat} {lv : List (Nat × Value)} {st st0 : List Value} {index maxL na : Nat} {y : MethodName} {bytes : ByteArray} {ws ws' : List Cond} {rm : Room} {b : Nat} {As : List Value} {wr wc : va_W} {Po : va_W → Prop} {Ex : State → Prop}
    (C : zz_ok X cc own Ts k nL R) (hM : ∀ (l : Launch) (D : va_G), zz_MC l y ws rm D k Ex (.ref b :: As) wc Po) (hEb : ∀ (U : State) (g : JFrame) (mk : MethodId) (a : Array Value), Ex U → Ex (U.calling g mk a)) (hEx : ∀ U : State, X.2.2.2.2.1.WarmedH U.vm → Ex U) (hG : GoodIn Ts ws) (hw : ws = Cond.code y bytes maxL none :: ws') (hi9 : Cond.initialized y.cls ∈ Ts) (hl9 : Cond.methodLink own index y ∈ Ts) (hin9 : Cond.instanceMethod y ∈ Ts) (hyn : y.name = "<init>") (hd9 : y.cls ≠ "java/lang/invoke/MethodHandle" ∧ y.cls ≠ "java/lang/invoke/VarHandle" ∧ (parseMethodDescriptor y.desc).map (fun d => d.parameters.length) = some na)
    (hR : rm.frames + 1 ≤ R.frames ∧ 8 + (maxL + 11) + rm.locals ≤ R.locals) (hrc : n.1 + rm.cells ≤ R.cells ∧ n.2 + rm.slots ≤ R.slots) (hn : As.length = na) (hst : (st.map fun v => v.category).sum ≤ 8) (hs : As.reverse ++ .ref b :: st = st0) (hd : decode cc pc = .ok (.invokespecial index, 3)) (hp : pc + 3 = pc') (hn' : (n.1 + rm.cells, n.2 + rm.slots) = n') (h : ∀ u : va_W, Po u → zz_ww X n' (wr ++ u) pc' lv st) : zz_ww X n (wr ++ wc) pc lv st0 := by
  subst hp
  subst hs
  subst hn'
  obtain ⟨p, l, e, R0, s, m, args, below, meth, c, D, A, nL0, Q⟩ := X
  obtain ⟨hx, hb, hml, hown, hts, hK, hA, hlk, en, eR⟩ := C
  subst en eR
  intro H locs ls hP hD hS hl
  obtain ⟨hPc, hDc⟩ := zz_part hP hD
  have hF : ∀ q, va_A wc H.size q → A q := fun q hq => hq.elim (fun ⟨k9, e9, h9⟩ => hDc.2 k9 (q, e9) h9) (fun h9 => hA q (Nat.le_trans hS.1 h9))
  refine va_callv (va_runI (As := As) (rest := st) ⟨hx, hb, hml, hown, hts⟩ (hM l D H.size) (cwI na hts hG hw rfl rfl (hts _ hi9) (hts _ hl9) (hts _ hin9) hyn hd9 hR) ⟨zz_blindC hEb, fun U hU hW => ⟨rfl, ⟨by rw [hU], by rw [hU]; exact hPc, va_K.moved hW.alike hK, hDc.weaken (fun _ _ _ _ => trivial)⟩, hEx U hW⟩⟩ rfl hn hl.1 rfl (lv_room hst) hd hrc) hS (fun q _ h => hF q h) hF (fun u t H1 locs1 ht hvm hpost hB hz1 hk1 hS1 => ?_)
  obtain ⟨hP1, hK1, hD1⟩ := hB
  rw [ht] at hP1
  obtain ⟨hP2, hD2⟩ := zz_frame hP hD hF hk1 hP1 hD1
  exact h u hpost H1 locs1 ls hP2 hD2 hS1 hl
set_option maxHeartbeats 4000000 in
theorem zr_cIN {X : zz_X} {cc : ByteArray} {own : String} {Ts : List Cond} {k : Nat → ClassId} {nL : Nat} {R : Room} {n n' : Nat × Nat} {pc pc' : Nat} {lv : List (Nat × Value)} {st st0 : List Value} {index maxL na : Nat} {y : MethodName} {bytes : ByteArray} {ws ws' : List Cond} {rm : Room} {b : Nat} {As : List Value} {wr wc : va_W} {Po : va_W → Prop} {Ex : State → Prop}
    (C : zz_ok X cc own Ts k nL R) (hM : ∀ (l : Launch) (D : va_G), zz_MC l y ws rm D k Ex (.ref b :: As) wc Po) (hEb : ∀ (U : State) (g : JFrame) (mk : MethodId) (a : Array Value), Ex U → Ex (U.calling g mk a)) (hEx : ∀ U : State, X.2.2.2.2.1.WarmedH U.vm → Ex U) (hG : GoodIn Ts ws) (hw : ws = Cond.code y bytes maxL none :: ws') (hi9 : Cond.initialized y.cls ∈ Ts) {host : String} {EX : State → Prop} (E : zz_okE X EX) (hl9 : ∀ U, EX U → va_Nw (.methodLinkNest own index y host) U) (hin9 : Cond.instanceMethod y ∈ Ts) (hyn : y.name = "<init>") (hd9 : y.cls ≠ "java/lang/invoke/MethodHandle" ∧ y.cls ≠ "java/lang/invoke/VarHandle" ∧ (parseMethodDescriptor y.desc).map (fun d => d.parameters.length) = some na)
    (hR : rm.frames + 1 ≤ R.frames ∧ 8 + (maxL + 11) + rm.locals ≤ R.locals) (hrc : n.1 + rm.cells ≤ R.cells ∧ n.2 + rm.slots ≤ R.slots) (hn : As.length = na) (hst : (st.map fun v => v.category).sum ≤ 8) (hs : As.reverse ++ .ref b :: st = st0) (hd : decode cc pc = .ok (.invokespecial index, 3)) (hp : pc + 3 = pc') (hn' : (n.1 + rm.cells, n.2 + rm.slots) = n') (h : ∀ u : va_W, Po u → zz_ww X n' (wr ++ u) pc' lv st) : zz_ww X n (wr ++ wc) pc lv st0 := by
  subst hp
  subst hs
  subst hn'
  obtain ⟨p, l, e, R0, s, m, args, below, meth, c, D, A, nL0, Q⟩ := X
  obtain ⟨hx, hb, hml, hown, hts, hK, hA, hlk, en, eR⟩ := C
  subst en eR
  intro H locs ls hP hD hS hl
  obtain ⟨hPc, hDc⟩ := zz_part hP hD
  have hF : ∀ q, va_A wc H.size q → A q := fun q hq => hq.elim (fun ⟨k9, e9, h9⟩ => hDc.2 k9 (q, e9) h9) (fun h9 => hA q (Nat.le_trans hS.1 h9))
  refine va_callv (va_runIN (As := As) (rest := st) ⟨hx, hb, hml, hown, hts⟩ (hM l D H.size) (⟨va_cnB na hts hG hw rfl rfl (hl9 _ E) (hts _ hi9) hd9 hR, hyn, hts _ hin9⟩) ⟨zz_blindC hEb, fun U hU hW => ⟨rfl, ⟨by rw [hU], by rw [hU]; exact hPc, va_K.moved hW.alike hK, hDc.weaken (fun _ _ _ _ => trivial)⟩, hEx U hW⟩⟩ rfl hn hl.1 rfl (lv_room hst) hd hrc) hS (fun q _ h => hF q h) hF (fun u t H1 locs1 ht hvm hpost hB hz1 hk1 hS1 => ?_)
  obtain ⟨hP1, hK1, hD1⟩ := hB
  rw [ht] at hP1
  obtain ⟨hP2, hD2⟩ := zz_frame hP hD hF hk1 hP1 hD1
  exact h u hpost H1 locs1 ls hP2 hD2 hS1 hl
theorem zr_fillWI {X : zz_X} {cc : ByteArray} {own : String} {Ts : List Cond} {k : Nat → ClassId} {nL : Nat} {R : Room} {n : Nat × Nat} {pc pc' : Nat} {lv : List (Nat × Value)} {st : List Value} {w w' : va_W} {b N : Nat} {f : Nat → Int32} {v : Int32} {index : Nat} (C : zz_ok X cc own Ts k nL R) (hG : GoodIn Ts (va_wsS own index yJ7_fill_53178 wsJ7_fill_53178)) (hR : 0 + 1 ≤ R.frames ∧ 8 + (4 + 11) + 0 ≤ R.locals) (hrc : n.1 + 0 ≤ R.cells ∧ n.2 + 0 ≤ R.slots) (hst : (st.map fun v => v.category).sum ≤ 8) (q0 : Nat) (he : w[q0]? = some (b, .inl (k 0, N, .inl f))) (hN : N < 2147483648) (hw : w.set q0 (b, .inl (k 0, N, .inl (fun j => if j < N then v else f j))) = w') (hd : decode cc pc = .ok (.invokestatic index, 3)) (hp : pc + 3 = pc') (h : zz_ww X n w' pc' lv st) : zz_ww X n w pc lv (.int v :: .ref b :: st) := by
  subst hw
  exact zr_cSv (wf := id) (S := w) (st := st) (F := some (w.set q0 (b, .inl (k 0, N, .inl (fun j => if j < N then v else f j))))) (K := fun _ => some ()) (r := ()) C (fun l D u hu => by cases hu; exact zc_fillI l D k v he hN) hG rfl zd_J7_fill_53178 hR hrc rfl hst rfl hd hp rfl rfl (fun u hu _ => by
    cases hu
    exact h)

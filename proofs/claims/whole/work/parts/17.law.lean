abbrev zz_LS : Type := zz_St × zz_St × (Nat → Int64)
def zz_wL (a b : Nat → Nat) (ob : Nat) (k : Nat → ClassId) (z : Nat) (T : zz_LS) : va_W := [(ob, .inl (k 1, 1, .inr (.inl T.2.2)))] ++ (zz_wC a k z T.1 ++ zz_wM b k T.2.1)
theorem zk_L0 {a b : Nat → Nat} {ob : Nat} {k : Nat → ClassId} {z : Nat} {T : zz_LS} : (zz_wL a b ob k z T)[0]? = some (ob, .inl (k 1, 1, .inr (.inl T.2.2))) := rfl
def zz_upH (T : zz_LS) (u : zz_St × (Nat → Int64)) : zz_LS := (u.1, T.2.1, u.2)
def zz_upC (T : zz_LS) (u : zz_St) : zz_LS := (u, T.2.1, T.2.2)
def zz_upM (T : zz_LS) (u : zz_St) : zz_LS := (T.1, u, T.2.2)
def zz_lift {α σ τ : Type} (up : σ → τ) (F : Option (α × σ)) : Option (α × τ) := F.map (fun x => (x.1, up x.2))
def zz_ro2 {α σ : Type} (F : Option α) (S : σ) : Option (α × σ) := F.map (fun v => (v, S))
theorem zz_ro2_M {α σ : Type} {F : Option α} {S : σ} {v : α} {u : σ} {M : α → σ → Prop} (h : zz_ro2 F S = some (v, u)) (hM : ∀ v, F = some v → M v S) : M v u := by
  cases F with
  | none => cases h
  | some x => cases h; exact hM _ rfl
theorem zz_ro2_MI {σ : Type} {F : Option Int32} {S : σ} {v : Int32} {u : σ} {l : Launch} {y : MethodName} {ws : List Cond} {rm : Room} {D : va_G} {k : Nat → ClassId} {wf : σ → va_W} {av : List Value} (h : zz_ro2 F S = some (v, u)) (hM : ∀ v, F = some v → zz_MI l y ws rm D k wf av S (v, S)) : zz_MI l y ws rm D k wf av S (v, u) := by
  cases F with
  | none => cases h
  | some x => cases h; exact hM _ rfl
theorem zz_pH {a b : Nat → Nat} {ob : Nat} {k : Nat → ClassId} {z : Nat} {T : zz_LS} : List.Perm (zz_wL a b ob k z T) (zz_wM b k T.2.1 ++ zz_wH a ob k z (T.1, T.2.2)) := by
  unfold zz_wL zz_wH
  rw [← List.append_assoc]
  exact List.perm_append_comm
theorem zz_pH' {a b : Nat → Nat} {ob : Nat} {k : Nat → ClassId} {z : Nat} {T : zz_LS} (u : zz_St × (Nat → Int64)) : List.Perm (zz_wM b k T.2.1 ++ zz_wH a ob k z u) (zz_wL a b ob k z (zz_upH T u)) := (zz_pH (T := zz_upH T u)).symm
theorem zz_pC {a b : Nat → Nat} {ob : Nat} {k : Nat → ClassId} {z : Nat} {T : zz_LS} : List.Perm (zz_wL a b ob k z T) (([(ob, .inl (k 1, 1, .inr (.inl T.2.2)))] ++ zz_wM b k T.2.1) ++ zz_wC a k z T.1) := by
  unfold zz_wL
  rw [List.append_assoc]
  exact List.Perm.append_left _ List.perm_append_comm
theorem zz_pC' {a b : Nat → Nat} {ob : Nat} {k : Nat → ClassId} {z : Nat} {T : zz_LS} (u : zz_St) : List.Perm (([(ob, .inl (k 1, 1, .inr (.inl T.2.2)))] ++ zz_wM b k T.2.1) ++ zz_wC a k z u) (zz_wL a b ob k z (zz_upC T u)) := (zz_pC (T := zz_upC T u)).symm
theorem zz_pM {a b : Nat → Nat} {ob : Nat} {k : Nat → ClassId} {z : Nat} {T : zz_LS} : List.Perm (zz_wL a b ob k z T) (([(ob, .inl (k 1, 1, .inr (.inl T.2.2)))] ++ zz_wC a k z T.1) ++ zz_wM b k T.2.1) := by
  unfold zz_wL
  rw [List.append_assoc]
theorem zz_pM' {a b : Nat → Nat} {ob : Nat} {k : Nat → ClassId} {z : Nat} {T : zz_LS} (u : zz_St) : List.Perm (([(ob, .inl (k 1, 1, .inr (.inl T.2.2)))] ++ zz_wC a k z T.1) ++ zz_wM b k u) (zz_wL a b ob k z (zz_upM T u)) := (zz_pM (T := zz_upM T u)).symm
/-- the script, outside the world -/
def zz_okS (X : zz_X) (sb L : Nat) (xs : Nat → Int32) : Prop := match X with
  | (_, _, _, _, s, _, _, _, _, _, _, A, _, _) => va_X sb L xs s s.heap ∧ sb < s.heap.size ∧ ¬ A sb
theorem zr_sld {X : zz_X} {cc : ByteArray} {own : String} {Ts : List Cond} {k : Nat → ClassId} {nL : Nat} {R : Room} {n : Nat × Nat} {w : va_W} {pc pc' : Nat} {lv : List (Nat × Value)} {st : List Value} {α : Type} {r : α} {sb L : Nat} {xs : Nat → Int32} {i : Int32} {K : Option α} (C : zz_ok X cc own Ts k nL R) (SX : zz_okS X sb L xs) (hd : decode cc pc = .ok (.iaload, 1)) (hp : pc + 1 = pc') (hq : zz_gd (zz_in i L) K = some r) (h : K = some r → zz_ww X n w pc' lv (.int (xs i.toNatClampNeg) :: st)) : zz_ww X n w pc lv (.int i :: .ref sb :: st) := by
  subst hp
  obtain ⟨hg, hq⟩ := zz_gd_some hq
  obtain ⟨p, l, e, R0, s, m, args, below, meth, c, D, A, nL0, Q⟩ := X
  obtain ⟨hx, hb, hml, hown, hts, hK, hA, hlk, en, eR⟩ := C
  subst en eR
  intro H locs ls hP hD hS hl
  obtain ⟨h1, h2, h3⟩ := SX
  exact va_sld hx hb h1 h2 h3 hS (zz_in_vp hg) hd (h hq H locs ls hP hD hS hl)
theorem zr_slen {X : zz_X} {cc : ByteArray} {own : String} {Ts : List Cond} {k : Nat → ClassId} {nL : Nat} {R : Room} {n : Nat × Nat} {w : va_W} {pc pc' : Nat} {lv : List (Nat × Value)} {st : List Value} {sb L : Nat} {xs : Nat → Int32} (C : zz_ok X cc own Ts k nL R) (SX : zz_okS X sb L xs) (hd : decode cc pc = .ok (.arraylength, 1)) (hp : pc + 1 = pc') (h : zz_ww X n w pc' lv (.int (nI L) :: st)) : zz_ww X n w pc lv (.ref sb :: st) := by
  subst hp
  obtain ⟨p, l, e, R0, s, m, args, below, meth, c, D, A, nL0, Q⟩ := X
  obtain ⟨hx, hb, hml, hown, hts, hK, hA, hlk, en, eR⟩ := C
  subst en eR
  intro H locs ls hP hD hS hl
  obtain ⟨h1, h2, h3⟩ := SX
  exact va_slen hx hb h1 h2 h3 hS hd (h H locs ls hP hD hS hl)
theorem zz_fix2_Wn {A0 A1 α : Type} {F : (A0 → A1 → Option α) → A0 → A1 → Option α} {r : α} (P : Nat → A0 → A1 → Prop) (hb : ∀ (k : Nat) (rc : A0 → A1 → Option α), (∀ x0 x1, rc x0 x1 = some r → P k x0 x1) → ∀ x0 x1, F rc x0 x1 = some r → P (k + 1) x0 x1) : ∀ (k : Nat) (x0 : A0) (x1 : A1), zz_fix2 F k x0 x1 = some r → P k x0 x1 := by
  intro k
  induction k with
  | zero => intro x0 x1 h; cases h
  | succ k ih => intro x0 x1 h; exact hb k _ ih x0 x1 h
/-- one turn of the law's loop -/
def zf_law_turn (N z L : Nat) (xs : Nat → Int32) (rc : Int32 → zz_LS → Option Int32) (i : Int32) (T : zz_LS) : Option Int32 := if ((nI L) - ((5 : Int32))) < i then (some ((1 : Int32))) else (zz_gd (zz_in i L) (zz_jn1 (fun (S1 : zz_LS) => zz_let (i + (5 : Int32)) (fun x4 => rc x4 S1)) (fun j2 => if ((xs i.toNatClampNeg) &&& ((15 : Int32))) = (0 : Int32) then (zz_gd (zz_in (i + ((1 : Int32))) L) (zz_gd (zz_in (i + ((2 : Int32))) L) (zz_gd (zz_in (i + ((3 : Int32))) L) (zz_b2 (zz_lift (zz_upH T) (zz_LH zz_cvZ zz_h1 (zf_X6_bar N z T.1 (xs (i + ((1 : Int32))).toNatClampNeg) (xs (i + ((2 : Int32))).toNatClampNeg) (xs (i + ((3 : Int32))).toNatClampNeg)) T.2.2)) (fun x7 T6 => zz_let x7 (fun x8 => zz_gd (zz_in (i + ((1 : Int32))) L) (zz_gd (zz_in (i + ((2 : Int32))) L) (zz_gd (zz_in (i + ((3 : Int32))) L) (zz_b2 (zz_lift (zz_upM T6) (zf_X7_bar N T6.2.1 (xs (i + ((1 : Int32))).toNatClampNeg) (xs (i + ((2 : Int32))).toNatClampNeg) (xs (i + ((3 : Int32))).toNatClampNeg))) (fun x10 T9 => zz_let x10 (fun x11 => zz_b2 (zz_lift (zz_upM T9) (zz_ro2 (zf_X7_thrown N T9.2.1) T9.2.1)) (fun x13 T12 => if x13 = x8 then (zz_jn1 (fun (u14 : Unit) => j2 T12) (fun j15 => if x8 = 0 then (zz_gd (zz_in ((0 : Int32)) 1) (zz_jn1 (fun (v17 : Int64) => if (lg_cmp (T12.2.2 ((0 : Int32)).toNatClampNeg) v17) = 0 then (j15 ()) else (some ((0 : Int32)))) (fun j18 => if x11 = 0 then (j18 ((0 : Int64))) else (j18 ((1 : Int64)))))) else (j15 ()))) else (some ((0 : Int32))))))))))))))) else (if ((xs i.toNatClampNeg) &&& ((15 : Int32))) = (1 : Int32) then (zz_b2 (zz_lift (zz_upC T) (zf_X6_net N z T.1)) (fun x22 T21 => zz_b2 (zz_lift (zz_upM T21) (zf_X7_net N T21.2.1)) (fun x24 T23 => if x22 = x24 then (j2 T23) else (some ((0 : Int32)))))) else (if ((xs i.toNatClampNeg) &&& ((15 : Int32))) = (2 : Int32) then (zz_gd (zz_in (i + ((1 : Int32))) L) (zz_gd (zz_in (i + ((2 : Int32))) L) (zz_gd (zz_in (i + ((3 : Int32))) L) (zz_gd (zz_in (i + ((4 : Int32))) L) (zz_b2 (zz_lift (zz_upH T) (zz_LH zz_cvZ zz_h1 (zf_X6_pin N z T.1 (xs (i + ((1 : Int32))).toNatClampNeg) (xs (i + ((2 : Int32))).toNatClampNeg) (xs (i + ((3 : Int32))).toNatClampNeg) (xs (i + ((4 : Int32))).toNatClampNeg)) T.2.2)) (fun x27 T26 => zz_let x27 (fun x28 => zz_gd (zz_in (i + ((1 : Int32))) L) (zz_gd (zz_in (i + ((2 : Int32))) L) (zz_gd (zz_in (i + ((3 : Int32))) L) (zz_gd (zz_in (i + ((4 : Int32))) L) (zz_b2 (zz_lift (zz_upM T26) (zf_X7_pin N T26.2.1 (xs (i + ((1 : Int32))).toNatClampNeg) (xs (i + ((2 : Int32))).toNatClampNeg) (xs (i + ((3 : Int32))).toNatClampNeg) (xs (i + ((4 : Int32))).toNatClampNeg))) (fun x30 T29 => zz_let x30 (fun x31 => zz_b2 (zz_lift (zz_upM T29) (zz_ro2 (zf_X7_thrown N T29.2.1) T29.2.1)) (fun x33 T32 => if x33 = x28 then (zz_jn1 (fun (u34 : Unit) => j2 T32) (fun j35 => if x28 = 0 then (zz_gd (zz_in ((0 : Int32)) 1) (zz_jn1 (fun (v37 : Int64) => if (lg_cmp (T32.2.2 ((0 : Int32)).toNatClampNeg) v37) = 0 then (j35 ()) else (some ((0 : Int32)))) (fun j38 => if x31 = 0 then (j38 ((0 : Int64))) else (j38 ((1 : Int64)))))) else (j35 ()))) else (some ((0 : Int32))))))))))))))))) else (if ((xs i.toNatClampNeg) &&& ((15 : Int32))) = (3 : Int32) then (zz_gd (zz_in (i + ((1 : Int32))) L) (zz_gd (zz_in (i + ((2 : Int32))) L) (zz_gd (zz_in (i + ((3 : Int32))) L) (zz_gd (zz_in (i + ((4 : Int32))) L) (zz_b2 (zz_lift (zz_upH T) (zz_LH zz_cvZ zz_h2 (zf_X6_cost N z T.1 (xs (i + ((1 : Int32))).toNatClampNeg) (xs (i + ((2 : Int32))).toNatClampNeg) (xs (i + ((3 : Int32))).toNatClampNeg) (xs (i + ((4 : Int32))).toNatClampNeg)) T.2.2)) (fun x42 T41 => zz_let x42 (fun x43 => zz_gd (zz_in (i + ((1 : Int32))) L) (zz_gd (zz_in (i + ((2 : Int32))) L) (zz_gd (zz_in (i + ((3 : Int32))) L) (zz_gd (zz_in (i + ((4 : Int32))) L) (zz_b2 (zz_lift (zz_upM T41) (zf_X7_cost N T41.2.1 (xs (i + ((1 : Int32))).toNatClampNeg) (xs (i + ((2 : Int32))).toNatClampNeg) (xs (i + ((3 : Int32))).toNatClampNeg) (xs (i + ((4 : Int32))).toNatClampNeg))) (fun x45 T44 => zz_let x45 (fun x46 => zz_b2 (zz_lift (zz_upM T44) (zz_ro2 (zf_X7_thrown N T44.2.1) T44.2.1)) (fun x48 T47 => if x48 = x43 then (zz_jn1 (fun (u49 : Unit) => j2 T47) (fun j50 => if x43 = 0 then (zz_gd (zz_in ((0 : Int32)) 1) (zz_jn1 (fun (v52 : Int64) => if (lg_cmp (T47.2.2 ((0 : Int32)).toNatClampNeg) v52) = 0 then (j50 ()) else (some ((0 : Int32)))) (fun j53 => if x46 = 0 then (j53 ((0 : Int64))) else (j53 ((1 : Int64)))))) else (j50 ()))) else (some ((0 : Int32))))))))))))))))) else (if ((xs i.toNatClampNeg) &&& ((15 : Int32))) = (4 : Int32) then (zz_gd (zz_in (i + ((1 : Int32))) L) (zz_b2 (zz_lift (zz_upH T) (zz_LH Int32.toInt64 zz_h3 (zf_X6_run N z T.1 (xs (i + ((1 : Int32))).toNatClampNeg)) T.2.2)) (fun x57 T56 => zz_let x57 (fun x58 => zz_gd (zz_in (i + ((1 : Int32))) L) (zz_b2 (zz_lift (zz_upM T56) (zf_X7_run N T56.2.1 (xs (i + ((1 : Int32))).toNatClampNeg))) (fun x60 T59 => zz_let x60 (fun x61 => zz_b2 (zz_lift (zz_upM T59) (zz_ro2 (zf_X7_thrown N T59.2.1) T59.2.1)) (fun x63 T62 => if x63 = x58 then (zz_jn1 (fun (u64 : Unit) => j2 T62) (fun j65 => if x58 = 0 then (zz_gd (zz_in ((0 : Int32)) 1) (if (lg_cmp (T62.2.2 ((0 : Int32)).toNatClampNeg) x61.toInt64) = 0 then (j65 ()) else (some ((0 : Int32))))) else (j65 ()))) else (some ((0 : Int32))))))))))) else (if ((xs i.toNatClampNeg) &&& ((15 : Int32))) = (5 : Int32) then (zz_gd (zz_in (i + ((1 : Int32))) L) (zz_gd (zz_in (i + ((2 : Int32))) L) (zz_gd (zz_in (i + ((3 : Int32))) L) (zz_b2 (zz_lift (zz_upH T) (zz_LH Int32.toInt64 zz_h1 (zf_X6_piece N z T.1 (xs (i + ((1 : Int32))).toNatClampNeg) (xs (i + ((2 : Int32))).toNatClampNeg) (xs (i + ((3 : Int32))).toNatClampNeg)) T.2.2)) (fun x69 T68 => zz_let x69 (fun x70 => zz_gd (zz_in (i + ((1 : Int32))) L) (zz_gd (zz_in (i + ((2 : Int32))) L) (zz_gd (zz_in (i + ((3 : Int32))) L) (zz_b2 (zz_lift (zz_upM T68) (zf_X7_piece N T68.2.1 (xs (i + ((1 : Int32))).toNatClampNeg) (xs (i + ((2 : Int32))).toNatClampNeg) (xs (i + ((3 : Int32))).toNatClampNeg))) (fun x72 T71 => zz_let x72 (fun x73 => zz_b2 (zz_lift (zz_upM T71) (zz_ro2 (zf_X7_thrown N T71.2.1) T71.2.1)) (fun x75 T74 => if x75 = x70 then (zz_jn1 (fun (u76 : Unit) => j2 T74) (fun j77 => if x70 = 0 then (zz_gd (zz_in ((0 : Int32)) 1) (if (lg_cmp (T74.2.2 ((0 : Int32)).toNatClampNeg) x73.toInt64) = 0 then (j77 ()) else (some ((0 : Int32))))) else (j77 ()))) else (some ((0 : Int32))))))))))))))) else (if ((xs i.toNatClampNeg) &&& ((15 : Int32))) = (6 : Int32) then (zz_gd (zz_in (i + ((1 : Int32))) L) (zz_b2 (zz_lift (zz_upH T) (zz_LH (fun v : Int64 => v) zz_h1 (zf_X6_costOf N z T.1 (xs (i + ((1 : Int32))).toNatClampNeg)) T.2.2)) (fun x81 T80 => zz_let x81 (fun x82 => zz_gd (zz_in (i + ((1 : Int32))) L) (zz_b2 (zz_lift (zz_upM T80) (zf_X7_costOf N T80.2.1 (xs (i + ((1 : Int32))).toNatClampNeg))) (fun x84 T83 => zz_let x84 (fun x85 => zz_b2 (zz_lift (zz_upM T83) (zz_ro2 (zf_X7_thrown N T83.2.1) T83.2.1)) (fun x87 T86 => if x87 = x82 then (zz_jn1 (fun (u88 : Unit) => j2 T86) (fun j89 => if x82 = 0 then (zz_gd (zz_in ((0 : Int32)) 1) (if (lg_cmp (T86.2.2 ((0 : Int32)).toNatClampNeg) x85) = 0 then (j89 ()) else (some ((0 : Int32))))) else (j89 ()))) else (some ((0 : Int32))))))))))) else (if ((xs i.toNatClampNeg) &&& ((15 : Int32))) = (7 : Int32) then (zz_gd (zz_in (i + ((1 : Int32))) L) (zz_b2 (zz_lift (zz_upH T) (zz_LH Int32.toInt64 zz_h1 (zf_X6_ripped N z T.1 (xs (i + ((1 : Int32))).toNatClampNeg)) T.2.2)) (fun x93 T92 => zz_let x93 (fun x94 => zz_gd (zz_in (i + ((1 : Int32))) L) (zz_b2 (zz_lift (zz_upM T92) (zf_X7_ripped N T92.2.1 (xs (i + ((1 : Int32))).toNatClampNeg))) (fun x96 T95 => zz_let x96 (fun x97 => zz_b2 (zz_lift (zz_upM T95) (zz_ro2 (zf_X7_thrown N T95.2.1) T95.2.1)) (fun x99 T98 => if x99 = x94 then (zz_jn1 (fun (u100 : Unit) => j2 T98) (fun j101 => if x94 = 0 then (zz_gd (zz_in ((0 : Int32)) 1) (if (lg_cmp (T98.2.2 ((0 : Int32)).toNatClampNeg) x97.toInt64) = 0 then (j101 ()) else (some ((0 : Int32))))) else (j101 ()))) else (some ((0 : Int32))))))))))) else (if ((xs i.toNatClampNeg) &&& ((15 : Int32))) = (8 : Int32) then (zz_gd (zz_in (i + ((1 : Int32))) L) (zz_gd (zz_in (i + ((2 : Int32))) L) (zz_gd (zz_in (i + ((3 : Int32))) L) (zz_b2 (zz_lift (zz_upH T) (zz_LH (fun v : Int64 => v) zz_h1 (zf_X6_history N z T.1 (xs (i + ((1 : Int32))).toNatClampNeg) (xs (i + ((2 : Int32))).toNatClampNeg) (xs (i + ((3 : Int32))).toNatClampNeg)) T.2.2)) (fun x105 T104 => zz_let x105 (fun x106 => zz_gd (zz_in (i + ((1 : Int32))) L) (zz_gd (zz_in (i + ((2 : Int32))) L) (zz_gd (zz_in (i + ((3 : Int32))) L) (zz_b2 (zz_lift (zz_upM T104) (zf_X7_history N T104.2.1 (xs (i + ((1 : Int32))).toNatClampNeg) (xs (i + ((2 : Int32))).toNatClampNeg) (xs (i + ((3 : Int32))).toNatClampNeg))) (fun x108 T107 => zz_let x108 (fun x109 => zz_b2 (zz_lift (zz_upM T107) (zz_ro2 (zf_X7_thrown N T107.2.1) T107.2.1)) (fun x111 T110 => if x111 = x106 then (zz_jn1 (fun (u112 : Unit) => j2 T110) (fun j113 => if x106 = 0 then (zz_gd (zz_in ((0 : Int32)) 1) (if (lg_cmp (T110.2.2 ((0 : Int32)).toNatClampNeg) x109) = 0 then (j113 ()) else (some ((0 : Int32))))) else (j113 ()))) else (some ((0 : Int32))))))))))))))) else (if ((xs i.toNatClampNeg) &&& ((15 : Int32))) = (9 : Int32) then (zz_gd (zz_in (i + ((1 : Int32))) L) (zz_b2 (zz_lift (zz_upC T) (zz_ro2 (zf_X6_open N z T.1 (xs (i + ((1 : Int32))).toNatClampNeg)) T.1)) (fun x117 T116 => zz_gd (zz_in (i + ((1 : Int32))) L) (zz_b2 (zz_lift (zz_upM T116) (zf_X7_open N T116.2.1 (xs (i + ((1 : Int32))).toNatClampNeg))) (fun x119 T118 => if x117 = x119 then (j2 T118) else (some ((0 : Int32)))))))) else (if ((xs i.toNatClampNeg) &&& ((15 : Int32))) = (10 : Int32) then (zz_gd (zz_in (i + ((1 : Int32))) L) (zz_gd (zz_in (i + ((2 : Int32))) L) (zz_b2 (zz_lift (zz_upH T) (zz_LH Int32.toInt64 zz_h1 (zf_X6_blocking N z T.1 (xs (i + ((1 : Int32))).toNatClampNeg) (xs (i + ((2 : Int32))).toNatClampNeg)) T.2.2)) (fun x122 T121 => zz_let x122 (fun x123 => zz_gd (zz_in (i + ((1 : Int32))) L) (zz_gd (zz_in (i + ((2 : Int32))) L) (zz_b2 (zz_lift (zz_upM T121) (zf_X7_blocking N T121.2.1 (xs (i + ((1 : Int32))).toNatClampNeg) (xs (i + ((2 : Int32))).toNatClampNeg))) (fun x125 T124 => zz_let x125 (fun x126 => zz_b2 (zz_lift (zz_upM T124) (zz_ro2 (zf_X7_thrown N T124.2.1) T124.2.1)) (fun x128 T127 => if x128 = x123 then (zz_jn1 (fun (u129 : Unit) => j2 T127) (fun j130 => if x123 = 0 then (zz_gd (zz_in ((0 : Int32)) 1) (if (lg_cmp (T127.2.2 ((0 : Int32)).toNatClampNeg) x126.toInt64) = 0 then (j130 ()) else (some ((0 : Int32))))) else (j130 ()))) else (some ((0 : Int32))))))))))))) else (if ((xs i.toNatClampNeg) &&& ((15 : Int32))) = (11 : Int32) then (zz_gd (zz_in (i + ((1 : Int32))) L) (zz_b2 (zz_lift (zz_upH T) (zz_LH zz_cvZ zz_h1 (zf_X6_joined N z T.1 (xs (i + ((1 : Int32))).toNatClampNeg)) T.2.2)) (fun x134 T133 => zz_let x134 (fun x135 => zz_gd (zz_in (i + ((1 : Int32))) L) (zz_b2 (zz_lift (zz_upM T133) (zf_X7_joined N T133.2.1 (xs (i + ((1 : Int32))).toNatClampNeg))) (fun x137 T136 => zz_let x137 (fun x138 => zz_b2 (zz_lift (zz_upM T136) (zz_ro2 (zf_X7_thrown N T136.2.1) T136.2.1)) (fun x140 T139 => if x140 = x135 then (zz_jn1 (fun (u141 : Unit) => j2 T139) (fun j142 => if x135 = 0 then (zz_gd (zz_in ((0 : Int32)) 1) (zz_jn1 (fun (v144 : Int64) => if (lg_cmp (T139.2.2 ((0 : Int32)).toNatClampNeg) v144) = 0 then (j142 ()) else (some ((0 : Int32)))) (fun j145 => if x138 = 0 then (j145 ((0 : Int64))) else (j145 ((1 : Int64)))))) else (j142 ()))) else (some ((0 : Int32))))))))))) else (if ((xs i.toNatClampNeg) &&& ((15 : Int32))) = (12 : Int32) then (zz_gd (zz_in (i + ((1 : Int32))) L) (zz_gd (zz_in (i + ((2 : Int32))) L) (zz_b2 (zz_lift (zz_upH T) (zz_LH Int32.toInt64 zz_h1 (zf_X6_corridor N z T.1 (xs (i + ((1 : Int32))).toNatClampNeg) (xs (i + ((2 : Int32))).toNatClampNeg)) T.2.2)) (fun x149 T148 => zz_let x149 (fun x150 => zz_gd (zz_in (i + ((1 : Int32))) L) (zz_gd (zz_in (i + ((2 : Int32))) L) (zz_b2 (zz_lift (zz_upM T148) (zf_X7_corridor N T148.2.1 (xs (i + ((1 : Int32))).toNatClampNeg) (xs (i + ((2 : Int32))).toNatClampNeg))) (fun x152 T151 => zz_let x152 (fun x153 => zz_b2 (zz_lift (zz_upM T151) (zz_ro2 (zf_X7_thrown N T151.2.1) T151.2.1)) (fun x155 T154 => if x155 = x150 then (zz_jn1 (fun (u156 : Unit) => j2 T154) (fun j157 => if x150 = 0 then (zz_gd (zz_in ((0 : Int32)) 1) (if (lg_cmp (T154.2.2 ((0 : Int32)).toNatClampNeg) x153.toInt64) = 0 then (j157 ()) else (some ((0 : Int32))))) else (j157 ()))) else (some ((0 : Int32))))))))))))) else (if ((xs i.toNatClampNeg) &&& ((15 : Int32))) = (13 : Int32) then (zz_b2 (zz_lift (zz_upC T) (zz_ro2 (zf_X6_round N z T.1) T.1)) (fun x161 T160 => zz_b2 (zz_lift (zz_upM T160) (zf_X7_round N T160.2.1)) (fun x163 T162 => if x161 = x163 then (j2 T162) else (some ((0 : Int32)))))) else (if ((xs i.toNatClampNeg) &&& ((15 : Int32))) = (14 : Int32) then (zz_gd (zz_in (i + ((1 : Int32))) L) (zz_b2 (zz_lift (zz_upH T) (zz_LH zz_cvZ zz_h1 (zf_X6_band N z T.1 (xs (i + ((1 : Int32))).toNatClampNeg)) T.2.2)) (fun x166 T165 => zz_let x166 (fun x167 => zz_gd (zz_in (i + ((1 : Int32))) L) (zz_b2 (zz_lift (zz_upM T165) (zf_X7_band N T165.2.1 (xs (i + ((1 : Int32))).toNatClampNeg))) (fun x169 T168 => zz_let x169 (fun x170 => zz_b2 (zz_lift (zz_upM T168) (zz_ro2 (zf_X7_thrown N T168.2.1) T168.2.1)) (fun x172 T171 => if x172 = x167 then (zz_jn1 (fun (u173 : Unit) => j2 T171) (fun j174 => if x167 = 0 then (zz_gd (zz_in ((0 : Int32)) 1) (zz_jn1 (fun (v176 : Int64) => if (lg_cmp (T171.2.2 ((0 : Int32)).toNatClampNeg) v176) = 0 then (j174 ()) else (some ((0 : Int32)))) (fun j177 => if x170 = 0 then (j177 ((0 : Int64))) else (j177 ((1 : Int64)))))) else (j174 ()))) else (some ((0 : Int32))))))))))) else (j2 T))))))))))))))))))
def zf_law_loop (N z L : Nat) (xs : Nat → Int32) (k : Nat) (i : Int32) (T : zz_LS) : Option Int32 := zz_fix2 (zf_law_turn N z L xs) k i T
set_option maxHeartbeats 40000000 in
set_option maxRecDepth 100000 in
theorem zc_law_turn {X : zz_X} {k : Nat → ClassId} {a b : Nat → Nat} {ob sb z L : Nat} {xs : Nat → Int32} (N : Nat) (C : zz_ok X cL_law RL wsL_law k 8 room_1) (TX : zz_okX X) (SX : zz_okS X sb L xs) {nc ns : Nat} (hnc : nc + 2 ≤ 601024) (hns : ns + 12 ≤ 7292999) (hret : ∀ (v : Int32) (T : zz_LS) (pc : Nat) (lv : List (Nat × Value)) (n : Nat × Nat), n.1 ≤ 601024 → n.2 ≤ 7292999 → decode cL_law pc = .ok (.ireturn, 1) → some v = some (1 : Int32) → zz_ww X n (zz_wL a b ob k z T) pc lv [.int v])
    (rc : Int32 → zz_LS → Option Int32) (hrc : ∀ (i : Int32) (T : zz_LS), rc i T = some 1 → zz_ww X (nc + 2, ns + 12) (zz_wL a b ob k z T) 65 [(0, .ref sb), (1, .ref (a 0)), (2, .ref (b 0)), (3, .ref ob), (4, .int i)] []) (i : Int32) (T : zz_LS) (h : zf_law_turn N z L xs rc i T = some 1) : zz_ww X (nc, ns) (zz_wL a b ob k z T) 65 [(0, .ref sb), (1, .ref (a 0)), (2, .ref (b 0)), (3, .ref ob), (4, .int i)] [] := by
  unfold zf_law_turn at h
  refine zr_il C 4 dL_law_65 rfl rfl ?_
  refine zr_aln C 0 dL_law_67 rfl rfl rfl ?_
  refine zr_slen C SX dL_law_68 rfl ?_
  refine zr_ic (v := (5 : Int32)) C dL_law_69 (by decide) rfl ?_
  refine zr_isub C dL_law_70 rfl ?_
  refine zr_icmp_gt (tgt := 1086) C dL_law_71 (by decide) rfl h (fun h => ?_) (fun h => ?_)
  · refine zr_ic (v := (1 : Int32)) C dL_law_1086 (by decide) rfl ?_
    exact hret ((1 : Int32)) T 1087 _ (nc, ns) (by show nc + 0 ≤ 601024; omega) (by show ns + 0 ≤ 7292999; omega) dL_law_1087 h
  · refine zr_aln C 0 dL_law_74 rfl rfl rfl ?_
    refine zr_il C 4 dL_law_75 rfl rfl ?_
    refine zr_sld C SX dL_law_77 rfl h (fun h => ?_)
    refine zr_bi (v := (15 : Int32)) C dL_law_78 (by decide) rfl ?_
    refine zr_iand C dL_law_80 rfl ?_
    refine zz_jn1_W h (fun (S1 : zz_LS) => zz_ww X (nc + 2, ns + 12) (zz_wL a b ob k z S1) 1080 [(0, .ref (sb)), (1, .ref (a 0)), (2, .ref (b 0)), (3, .ref (ob)), (4, .int i)] []) ?_ ?_
    · intro S1 h
      refine zr_iinc (v := (5 : Int32)) C 4 [1, 2, 3, 4, 0] dL_law_1080 rfl (by decide) rfl (by decide) (fun x4 => [(0, .ref (sb)), (1, .ref (a 0)), (2, .ref (b 0)), (3, .ref (ob)), (4, .int x4)]) h (fun _ => rfl) (fun x4 h => ?_)
      refine zr_goto (tgt := 65) C dL_law_1083 (by decide) ?_
      exact hrc x4 S1 h
    intro j2 hj3 h
    by_cases hc5 : (xs i.toNatClampNeg) &&& ((15 : Int32)) = (0 : Int32)
    · rw [if_pos hc5] at h
      refine zr_tabIn (v := (0 : Int32)) (tgt := 156) C dL_law_81 hc5 (by decide) (by decide) rfl (by decide) ?_
      refine zr_aln C 1 dL_law_156 rfl rfl rfl ?_
      refine zr_aln C 0 dL_law_157 rfl rfl rfl ?_
      refine zr_il C 4 dL_law_158 rfl rfl ?_
      refine zr_ic (v := (1 : Int32)) C dL_law_160 (by decide) rfl ?_
      refine zr_iadd C dL_law_161 rfl ?_
      refine zr_sld C SX dL_law_162 rfl h (fun h => ?_)
      refine zr_aln C 0 dL_law_163 rfl rfl rfl ?_
      refine zr_il C 4 dL_law_164 rfl rfl ?_
      refine zr_ic (v := (2 : Int32)) C dL_law_166 (by decide) rfl ?_
      refine zr_iadd C dL_law_167 rfl ?_
      refine zr_sld C SX dL_law_168 rfl h (fun h => ?_)
      refine zr_aln C 0 dL_law_169 rfl rfl rfl ?_
      refine zr_il C 4 dL_law_170 rfl rfl ?_
      refine zr_ic (v := (3 : Int32)) C dL_law_172 (by decide) rfl ?_
      refine zr_iadd C dL_law_173 rfl ?_
      refine zr_sld C SX dL_law_174 rfl h (fun h => ?_)
      refine zr_aln C 3 dL_law_175 rfl rfl rfl ?_
      refine zr_fSH (n' := (nc + 1, ns + 6)) (w' := zz_wL a b ob k z) (wr := zz_wM b k T.2.1) (wf := zz_wH a ob k z) (S := (T.1, T.2.2)) (st := []) (zz_upH T) C TX zz_pH (fun u => zz_pH' u) rfl (fun l D v u hl hu => zc_L_bar N l D k (a := a) (ob := ob) (z := z) T.1 T.2.2 (xs (i + ((1 : Int32))).toNatClampNeg) (xs (i + ((2 : Int32))).toNatClampNeg) (xs (i + ((3 : Int32))).toNatClampNeg) v u hl hu) gL_law_L_bar rfl zd_L_bar ⟨by decide, by decide⟩ ⟨by show nc + 0 + 1 ≤ 601024; omega, by show ns + 0 + 6 ≤ 7292999; omega⟩ rfl (Nat.le_of_ble_eq_true rfl) rfl dL_law_176 rfl rfl h (fun x7 T6 h => ?_)
      refine zr_is C [1, 2, 3, 4, 5, 0] dL_law_179 rfl (by decide) (fun x8 => [(0, .ref (sb)), (1, .ref (a 0)), (2, .ref (b 0)), (3, .ref (ob)), (4, .int i), (5, .int x8)]) h (fun _ => rfl) (fun x8 h => ?_)
      refine zr_aln C 2 dL_law_181 rfl rfl rfl ?_
      refine zr_aln C 0 dL_law_182 rfl rfl rfl ?_
      refine zr_il C 4 dL_law_183 rfl rfl ?_
      refine zr_ic (v := (1 : Int32)) C dL_law_185 (by decide) rfl ?_
      refine zr_iadd C dL_law_186 rfl ?_
      refine zr_sld C SX dL_law_187 rfl h (fun h => ?_)
      refine zr_aln C 0 dL_law_188 rfl rfl rfl ?_
      refine zr_il C 4 dL_law_189 rfl rfl ?_
      refine zr_ic (v := (2 : Int32)) C dL_law_191 (by decide) rfl ?_
      refine zr_iadd C dL_law_192 rfl ?_
      refine zr_sld C SX dL_law_193 rfl h (fun h => ?_)
      refine zr_aln C 0 dL_law_194 rfl rfl rfl ?_
      refine zr_il C 4 dL_law_195 rfl rfl ?_
      refine zr_ic (v := (3 : Int32)) C dL_law_197 (by decide) rfl ?_
      refine zr_iadd C dL_law_198 rfl ?_
      refine zr_sld C SX dL_law_199 rfl h (fun h => ?_)
      refine zr_fVi (n' := (nc + 1, ns + 6)) (w' := zz_wL a b ob k z) (wr := ([(ob, .inl (k 1, 1, .inr (.inl T6.2.2)))] ++ zz_wC a k z T6.1)) (wf := zz_wM b k) (S := T6.2.1) (st := []) (zz_upM T6) C zz_pM (fun u => zz_pM' u) rfl (fun l D v u hu => zc_X7_bar N l D k (a := b) T6.2.1 (xs (i + ((1 : Int32))).toNatClampNeg) (xs (i + ((2 : Int32))).toNatClampNeg) (xs (i + ((3 : Int32))).toNatClampNeg) v u hu) gL_law_X7_bar rfl zd_X7_bar ⟨by decide, by decide⟩ ⟨by show nc + 1 + 0 ≤ 601024; omega, by show ns + 6 + 0 ≤ 7292999; omega⟩ rfl ⟨0, 7, _, _, _, zk_M0, rfl⟩ (Nat.le_of_ble_eq_true rfl) rfl dL_law_200 rfl rfl h (fun x10 T9 h => ?_)
      refine zr_is C [1, 2, 3, 4, 5, 6, 0] dL_law_203 rfl (by decide) (fun x11 => [(0, .ref (sb)), (1, .ref (a 0)), (2, .ref (b 0)), (3, .ref (ob)), (4, .int i), (5, .int x8), (6, .int x11)]) h (fun _ => rfl) (fun x11 h => ?_)
      refine zr_aln C 2 dL_law_205 rfl rfl rfl ?_
      refine zr_fVi (n' := (nc + 1, ns + 6)) (w' := zz_wL a b ob k z) (wr := ([(ob, .inl (k 1, 1, .inr (.inl T9.2.2)))] ++ zz_wC a k z T9.1)) (wf := zz_wM b k) (S := T9.2.1) (st := []) (zz_upM T9) C zz_pM (fun u => zz_pM' u) rfl (fun l D v u hu => zz_ro2_MI hu (fun v hv => zc_X7_thrown N l D k (a := b) T9.2.1  v hv)) gL_law_X7_thrown rfl zd_X7_thrown ⟨by decide, by decide⟩ ⟨by show nc + 1 + 0 ≤ 601024; omega, by show ns + 6 + 0 ≤ 7292999; omega⟩ rfl ⟨0, 7, _, _, _, zk_M0, rfl⟩ (Nat.le_of_ble_eq_true rfl) rfl dL_law_206 rfl rfl h (fun x13 T12 h => ?_)
      refine zr_il C 5 dL_law_209 rfl rfl ?_
      refine zr_icmp_eq (tgt := 216) C dL_law_211 (by decide) rfl h (fun h => ?_) (fun h => ?_)
      · refine zr_il C 5 dL_law_216 rfl rfl ?_
        refine zz_jn1_W h (fun (u14 : Unit) => zz_ww X (nc + 1, ns + 6) (zz_wL a b ob k z T12) 240 [(0, .ref (sb)), (1, .ref (a 0)), (2, .ref (b 0)), (3, .ref (ob)), (4, .int i)] []) ?_ ?_
        · intro u14 h
          refine zr_goto (tgt := 1080) C dL_law_240 (by decide) ?_
          refine zr_wide (n' := (nc + 2, ns + 12)) (by simp) (by simp) ?_
          exact hj3 T12 h
        intro j15 hj16 h
        refine zr_if_ne (tgt := 240) C dL_law_218 (by decide) rfl h (fun h => ?_) (fun h => ?_)
        · refine zr_sub [0, 1, 2, 3, 4] rfl ?_
          exact hj16 () h
        · refine zr_aln C 3 dL_law_221 rfl rfl rfl ?_
          refine zr_ic (v := (0 : Int32)) C dL_law_222 (by decide) rfl ?_
          refine zr_lald C 0 zk_L0 dL_law_223 rfl h (fun h => ?_)
          refine zr_il C 6 dL_law_224 rfl rfl ?_
          refine zz_jn1_W h (fun (v17 : Int64) => zz_ww X (nc + 1, ns + 6) (zz_wL a b ob k z T12) 234 [(0, .ref (sb)), (1, .ref (a 0)), (2, .ref (b 0)), (3, .ref (ob)), (4, .int i)] [.long v17, .long (T12.2.2 ((0 : Int32)).toNatClampNeg)]) ?_ ?_
          · intro v17 h
            refine zr_lcmp C dL_law_234 rfl ?_
            refine zr_if_eq (tgt := 240) C dL_law_235 (by decide) rfl h (fun h => ?_) (fun h => ?_)
            · exact hj16 () h
            · refine zr_ic (v := (0 : Int32)) C dL_law_238 (by decide) rfl ?_
              exact hret ((0 : Int32)) T12 239 _ (nc + 1, ns + 6) (by show nc + 1 ≤ 601024; omega) (by show ns + 6 ≤ 7292999; omega) dL_law_239 h
          intro j18 hj19 h
          refine zr_if_eq (tgt := 233) C dL_law_226 (by decide) rfl h (fun h => ?_) (fun h => ?_)
          · refine zr_lc (v := 0) C dL_law_233 (by decide) rfl ?_
            refine zr_sub [0, 1, 2, 3, 4] rfl ?_
            exact hj19 ((0 : Int64)) h
          · refine zr_lc (v := 1) C dL_law_229 (by decide) rfl ?_
            refine zr_goto (tgt := 234) C dL_law_230 (by decide) ?_
            refine zr_sub [0, 1, 2, 3, 4] rfl ?_
            exact hj19 ((1 : Int64)) h
      · refine zr_ic (v := (0 : Int32)) C dL_law_214 (by decide) rfl ?_
        exact hret ((0 : Int32)) T12 215 _ (nc + 1, ns + 6) (by show nc + 1 ≤ 601024; omega) (by show ns + 6 ≤ 7292999; omega) dL_law_215 h
    rw [if_neg hc5] at h
    by_cases hc20 : (xs i.toNatClampNeg) &&& ((15 : Int32)) = (1 : Int32)
    · rw [if_pos hc20] at h
      refine zr_tabIn (v := (1 : Int32)) (tgt := 243) C dL_law_81 hc20 (by decide) (by decide) rfl (by decide) ?_
      refine zr_aln C 1 dL_law_243 rfl rfl rfl ?_
      refine zr_fVi (n' := (nc, ns)) (w' := zz_wL a b ob k z) (wr := ([(ob, .inl (k 1, 1, .inr (.inl T.2.2)))] ++ zz_wM b k T.2.1)) (wf := zz_wC a k z) (S := T.1) (st := []) (zz_upC T) C zz_pC (fun u => zz_pC' u) rfl (fun l D v u hu => zc_X6_net N l D k (a := a) (z := z) T.1  v u hu) gL_law_X6_net rfl zd_X6_net ⟨by decide, by decide⟩ ⟨by show nc + 0 + 0 ≤ 601024; omega, by show ns + 0 + 0 ≤ 7292999; omega⟩ rfl ⟨0, 6, _, _, _, zk_C0, rfl⟩ (Nat.le_of_ble_eq_true rfl) rfl dL_law_244 rfl rfl h (fun x22 T21 h => ?_)
      refine zr_aln C 2 dL_law_247 rfl rfl rfl ?_
      refine zr_fVi (n' := (nc, ns)) (w' := zz_wL a b ob k z) (wr := ([(ob, .inl (k 1, 1, .inr (.inl T21.2.2)))] ++ zz_wC a k z T21.1)) (wf := zz_wM b k) (S := T21.2.1) (st := [.int x22]) (zz_upM T21) C zz_pM (fun u => zz_pM' u) rfl (fun l D v u hu => zc_X7_net N l D k (a := b) T21.2.1  v u hu) gL_law_X7_net rfl zd_X7_net ⟨by decide, by decide⟩ ⟨by show nc + 0 + 0 ≤ 601024; omega, by show ns + 0 + 0 ≤ 7292999; omega⟩ rfl ⟨0, 7, _, _, _, zk_M0, rfl⟩ (Nat.le_of_ble_eq_true rfl) rfl dL_law_248 rfl rfl h (fun x24 T23 h => ?_)
      refine zr_icmp_eq (tgt := 1080) C dL_law_251 (by decide) rfl h (fun h => ?_) (fun h => ?_)
      · refine zr_wide (n' := (nc + 2, ns + 12)) (by simp) (by simp) ?_
        exact hj3 T23 h
      · refine zr_ic (v := (0 : Int32)) C dL_law_254 (by decide) rfl ?_
        exact hret ((0 : Int32)) T23 255 _ (nc, ns) (by show nc + 0 ≤ 601024; omega) (by show ns + 0 ≤ 7292999; omega) dL_law_255 h
    rw [if_neg hc20] at h
    by_cases hc25 : (xs i.toNatClampNeg) &&& ((15 : Int32)) = (2 : Int32)
    · rw [if_pos hc25] at h
      refine zr_tabIn (v := (2 : Int32)) (tgt := 256) C dL_law_81 hc25 (by decide) (by decide) rfl (by decide) ?_
      refine zr_aln C 1 dL_law_256 rfl rfl rfl ?_
      refine zr_aln C 0 dL_law_257 rfl rfl rfl ?_
      refine zr_il C 4 dL_law_258 rfl rfl ?_
      refine zr_ic (v := (1 : Int32)) C dL_law_260 (by decide) rfl ?_
      refine zr_iadd C dL_law_261 rfl ?_
      refine zr_sld C SX dL_law_262 rfl h (fun h => ?_)
      refine zr_aln C 0 dL_law_263 rfl rfl rfl ?_
      refine zr_il C 4 dL_law_264 rfl rfl ?_
      refine zr_ic (v := (2 : Int32)) C dL_law_266 (by decide) rfl ?_
      refine zr_iadd C dL_law_267 rfl ?_
      refine zr_sld C SX dL_law_268 rfl h (fun h => ?_)
      refine zr_aln C 0 dL_law_269 rfl rfl rfl ?_
      refine zr_il C 4 dL_law_270 rfl rfl ?_
      refine zr_ic (v := (3 : Int32)) C dL_law_272 (by decide) rfl ?_
      refine zr_iadd C dL_law_273 rfl ?_
      refine zr_sld C SX dL_law_274 rfl h (fun h => ?_)
      refine zr_aln C 0 dL_law_275 rfl rfl rfl ?_
      refine zr_il C 4 dL_law_276 rfl rfl ?_
      refine zr_ic (v := (4 : Int32)) C dL_law_278 (by decide) rfl ?_
      refine zr_iadd C dL_law_279 rfl ?_
      refine zr_sld C SX dL_law_280 rfl h (fun h => ?_)
      refine zr_aln C 3 dL_law_281 rfl rfl rfl ?_
      refine zr_fSH (n' := (nc + 2, ns + 12)) (w' := zz_wL a b ob k z) (wr := zz_wM b k T.2.1) (wf := zz_wH a ob k z) (S := (T.1, T.2.2)) (st := []) (zz_upH T) C TX zz_pH (fun u => zz_pH' u) rfl (fun l D v u hl hu => zc_L_pin N l D k (a := a) (ob := ob) (z := z) T.1 T.2.2 (xs (i + ((1 : Int32))).toNatClampNeg) (xs (i + ((2 : Int32))).toNatClampNeg) (xs (i + ((3 : Int32))).toNatClampNeg) (xs (i + ((4 : Int32))).toNatClampNeg) v u hl hu) gL_law_L_pin rfl zd_L_pin ⟨by decide, by decide⟩ ⟨by show nc + 0 + 2 ≤ 601024; omega, by show ns + 0 + 12 ≤ 7292999; omega⟩ rfl (Nat.le_of_ble_eq_true rfl) rfl dL_law_282 rfl rfl h (fun x27 T26 h => ?_)
      refine zr_is C [1, 2, 3, 4, 5, 0] dL_law_285 rfl (by decide) (fun x28 => [(0, .ref (sb)), (1, .ref (a 0)), (2, .ref (b 0)), (3, .ref (ob)), (4, .int i), (5, .int x28)]) h (fun _ => rfl) (fun x28 h => ?_)
      refine zr_aln C 2 dL_law_287 rfl rfl rfl ?_
      refine zr_aln C 0 dL_law_288 rfl rfl rfl ?_
      refine zr_il C 4 dL_law_289 rfl rfl ?_
      refine zr_ic (v := (1 : Int32)) C dL_law_291 (by decide) rfl ?_
      refine zr_iadd C dL_law_292 rfl ?_
      refine zr_sld C SX dL_law_293 rfl h (fun h => ?_)
      refine zr_aln C 0 dL_law_294 rfl rfl rfl ?_
      refine zr_il C 4 dL_law_295 rfl rfl ?_
      refine zr_ic (v := (2 : Int32)) C dL_law_297 (by decide) rfl ?_
      refine zr_iadd C dL_law_298 rfl ?_
      refine zr_sld C SX dL_law_299 rfl h (fun h => ?_)
      refine zr_aln C 0 dL_law_300 rfl rfl rfl ?_
      refine zr_il C 4 dL_law_301 rfl rfl ?_
      refine zr_ic (v := (3 : Int32)) C dL_law_303 (by decide) rfl ?_
      refine zr_iadd C dL_law_304 rfl ?_
      refine zr_sld C SX dL_law_305 rfl h (fun h => ?_)
      refine zr_aln C 0 dL_law_306 rfl rfl rfl ?_
      refine zr_il C 4 dL_law_307 rfl rfl ?_
      refine zr_ic (v := (4 : Int32)) C dL_law_309 (by decide) rfl ?_
      refine zr_iadd C dL_law_310 rfl ?_
      refine zr_sld C SX dL_law_311 rfl h (fun h => ?_)
      refine zr_fVi (n' := (nc + 2, ns + 12)) (w' := zz_wL a b ob k z) (wr := ([(ob, .inl (k 1, 1, .inr (.inl T26.2.2)))] ++ zz_wC a k z T26.1)) (wf := zz_wM b k) (S := T26.2.1) (st := []) (zz_upM T26) C zz_pM (fun u => zz_pM' u) rfl (fun l D v u hu => zc_X7_pin N l D k (a := b) T26.2.1 (xs (i + ((1 : Int32))).toNatClampNeg) (xs (i + ((2 : Int32))).toNatClampNeg) (xs (i + ((3 : Int32))).toNatClampNeg) (xs (i + ((4 : Int32))).toNatClampNeg) v u hu) gL_law_X7_pin rfl zd_X7_pin ⟨by decide, by decide⟩ ⟨by show nc + 2 + 0 ≤ 601024; omega, by show ns + 12 + 0 ≤ 7292999; omega⟩ rfl ⟨0, 7, _, _, _, zk_M0, rfl⟩ (Nat.le_of_ble_eq_true rfl) rfl dL_law_312 rfl rfl h (fun x30 T29 h => ?_)
      refine zr_is C [1, 2, 3, 4, 5, 6, 0] dL_law_315 rfl (by decide) (fun x31 => [(0, .ref (sb)), (1, .ref (a 0)), (2, .ref (b 0)), (3, .ref (ob)), (4, .int i), (5, .int x28), (6, .int x31)]) h (fun _ => rfl) (fun x31 h => ?_)
      refine zr_aln C 2 dL_law_317 rfl rfl rfl ?_
      refine zr_fVi (n' := (nc + 2, ns + 12)) (w' := zz_wL a b ob k z) (wr := ([(ob, .inl (k 1, 1, .inr (.inl T29.2.2)))] ++ zz_wC a k z T29.1)) (wf := zz_wM b k) (S := T29.2.1) (st := []) (zz_upM T29) C zz_pM (fun u => zz_pM' u) rfl (fun l D v u hu => zz_ro2_MI hu (fun v hv => zc_X7_thrown N l D k (a := b) T29.2.1  v hv)) gL_law_X7_thrown rfl zd_X7_thrown ⟨by decide, by decide⟩ ⟨by show nc + 2 + 0 ≤ 601024; omega, by show ns + 12 + 0 ≤ 7292999; omega⟩ rfl ⟨0, 7, _, _, _, zk_M0, rfl⟩ (Nat.le_of_ble_eq_true rfl) rfl dL_law_318 rfl rfl h (fun x33 T32 h => ?_)
      refine zr_il C 5 dL_law_321 rfl rfl ?_
      refine zr_icmp_eq (tgt := 328) C dL_law_323 (by decide) rfl h (fun h => ?_) (fun h => ?_)
      · refine zr_il C 5 dL_law_328 rfl rfl ?_
        refine zz_jn1_W h (fun (u34 : Unit) => zz_ww X (nc + 2, ns + 12) (zz_wL a b ob k z T32) 352 [(0, .ref (sb)), (1, .ref (a 0)), (2, .ref (b 0)), (3, .ref (ob)), (4, .int i)] []) ?_ ?_
        · intro u34 h
          refine zr_goto (tgt := 1080) C dL_law_352 (by decide) ?_
          exact hj3 T32 h
        intro j35 hj36 h
        refine zr_if_ne (tgt := 352) C dL_law_330 (by decide) rfl h (fun h => ?_) (fun h => ?_)
        · refine zr_sub [0, 1, 2, 3, 4] rfl ?_
          exact hj36 () h
        · refine zr_aln C 3 dL_law_333 rfl rfl rfl ?_
          refine zr_ic (v := (0 : Int32)) C dL_law_334 (by decide) rfl ?_
          refine zr_lald C 0 zk_L0 dL_law_335 rfl h (fun h => ?_)
          refine zr_il C 6 dL_law_336 rfl rfl ?_
          refine zz_jn1_W h (fun (v37 : Int64) => zz_ww X (nc + 2, ns + 12) (zz_wL a b ob k z T32) 346 [(0, .ref (sb)), (1, .ref (a 0)), (2, .ref (b 0)), (3, .ref (ob)), (4, .int i)] [.long v37, .long (T32.2.2 ((0 : Int32)).toNatClampNeg)]) ?_ ?_
          · intro v37 h
            refine zr_lcmp C dL_law_346 rfl ?_
            refine zr_if_eq (tgt := 352) C dL_law_347 (by decide) rfl h (fun h => ?_) (fun h => ?_)
            · exact hj36 () h
            · refine zr_ic (v := (0 : Int32)) C dL_law_350 (by decide) rfl ?_
              exact hret ((0 : Int32)) T32 351 _ (nc + 2, ns + 12) (by show nc + 2 ≤ 601024; omega) (by show ns + 12 ≤ 7292999; omega) dL_law_351 h
          intro j38 hj39 h
          refine zr_if_eq (tgt := 345) C dL_law_338 (by decide) rfl h (fun h => ?_) (fun h => ?_)
          · refine zr_lc (v := 0) C dL_law_345 (by decide) rfl ?_
            refine zr_sub [0, 1, 2, 3, 4] rfl ?_
            exact hj39 ((0 : Int64)) h
          · refine zr_lc (v := 1) C dL_law_341 (by decide) rfl ?_
            refine zr_goto (tgt := 346) C dL_law_342 (by decide) ?_
            refine zr_sub [0, 1, 2, 3, 4] rfl ?_
            exact hj39 ((1 : Int64)) h
      · refine zr_ic (v := (0 : Int32)) C dL_law_326 (by decide) rfl ?_
        exact hret ((0 : Int32)) T32 327 _ (nc + 2, ns + 12) (by show nc + 2 ≤ 601024; omega) (by show ns + 12 ≤ 7292999; omega) dL_law_327 h
    rw [if_neg hc25] at h
    by_cases hc40 : (xs i.toNatClampNeg) &&& ((15 : Int32)) = (3 : Int32)
    · rw [if_pos hc40] at h
      refine zr_tabIn (v := (3 : Int32)) (tgt := 355) C dL_law_81 hc40 (by decide) (by decide) rfl (by decide) ?_
      refine zr_aln C 1 dL_law_355 rfl rfl rfl ?_
      refine zr_aln C 0 dL_law_356 rfl rfl rfl ?_
      refine zr_il C 4 dL_law_357 rfl rfl ?_
      refine zr_ic (v := (1 : Int32)) C dL_law_359 (by decide) rfl ?_
      refine zr_iadd C dL_law_360 rfl ?_
      refine zr_sld C SX dL_law_361 rfl h (fun h => ?_)
      refine zr_aln C 0 dL_law_362 rfl rfl rfl ?_
      refine zr_il C 4 dL_law_363 rfl rfl ?_
      refine zr_ic (v := (2 : Int32)) C dL_law_365 (by decide) rfl ?_
      refine zr_iadd C dL_law_366 rfl ?_
      refine zr_sld C SX dL_law_367 rfl h (fun h => ?_)
      refine zr_aln C 0 dL_law_368 rfl rfl rfl ?_
      refine zr_il C 4 dL_law_369 rfl rfl ?_
      refine zr_ic (v := (3 : Int32)) C dL_law_371 (by decide) rfl ?_
      refine zr_iadd C dL_law_372 rfl ?_
      refine zr_sld C SX dL_law_373 rfl h (fun h => ?_)
      refine zr_aln C 0 dL_law_374 rfl rfl rfl ?_
      refine zr_il C 4 dL_law_375 rfl rfl ?_
      refine zr_ic (v := (4 : Int32)) C dL_law_377 (by decide) rfl ?_
      refine zr_iadd C dL_law_378 rfl ?_
      refine zr_sld C SX dL_law_379 rfl h (fun h => ?_)
      refine zr_aln C 3 dL_law_380 rfl rfl rfl ?_
      refine zr_fSH (n' := (nc + 1, ns + 6)) (w' := zz_wL a b ob k z) (wr := zz_wM b k T.2.1) (wf := zz_wH a ob k z) (S := (T.1, T.2.2)) (st := []) (zz_upH T) C TX zz_pH (fun u => zz_pH' u) rfl (fun l D v u hl hu => zc_L_cost N l D k (a := a) (ob := ob) (z := z) T.1 T.2.2 (xs (i + ((1 : Int32))).toNatClampNeg) (xs (i + ((2 : Int32))).toNatClampNeg) (xs (i + ((3 : Int32))).toNatClampNeg) (xs (i + ((4 : Int32))).toNatClampNeg) v u hl hu) gL_law_L_cost rfl zd_L_cost ⟨by decide, by decide⟩ ⟨by show nc + 0 + 1 ≤ 601024; omega, by show ns + 0 + 6 ≤ 7292999; omega⟩ rfl (Nat.le_of_ble_eq_true rfl) rfl dL_law_381 rfl rfl h (fun x42 T41 h => ?_)
      refine zr_is C [1, 2, 3, 4, 5, 0] dL_law_384 rfl (by decide) (fun x43 => [(0, .ref (sb)), (1, .ref (a 0)), (2, .ref (b 0)), (3, .ref (ob)), (4, .int i), (5, .int x43)]) h (fun _ => rfl) (fun x43 h => ?_)
      refine zr_aln C 2 dL_law_386 rfl rfl rfl ?_
      refine zr_aln C 0 dL_law_387 rfl rfl rfl ?_
      refine zr_il C 4 dL_law_388 rfl rfl ?_
      refine zr_ic (v := (1 : Int32)) C dL_law_390 (by decide) rfl ?_
      refine zr_iadd C dL_law_391 rfl ?_
      refine zr_sld C SX dL_law_392 rfl h (fun h => ?_)
      refine zr_aln C 0 dL_law_393 rfl rfl rfl ?_
      refine zr_il C 4 dL_law_394 rfl rfl ?_
      refine zr_ic (v := (2 : Int32)) C dL_law_396 (by decide) rfl ?_
      refine zr_iadd C dL_law_397 rfl ?_
      refine zr_sld C SX dL_law_398 rfl h (fun h => ?_)
      refine zr_aln C 0 dL_law_399 rfl rfl rfl ?_
      refine zr_il C 4 dL_law_400 rfl rfl ?_
      refine zr_ic (v := (3 : Int32)) C dL_law_402 (by decide) rfl ?_
      refine zr_iadd C dL_law_403 rfl ?_
      refine zr_sld C SX dL_law_404 rfl h (fun h => ?_)
      refine zr_aln C 0 dL_law_405 rfl rfl rfl ?_
      refine zr_il C 4 dL_law_406 rfl rfl ?_
      refine zr_ic (v := (4 : Int32)) C dL_law_408 (by decide) rfl ?_
      refine zr_iadd C dL_law_409 rfl ?_
      refine zr_sld C SX dL_law_410 rfl h (fun h => ?_)
      refine zr_fVi (n' := (nc + 1, ns + 6)) (w' := zz_wL a b ob k z) (wr := ([(ob, .inl (k 1, 1, .inr (.inl T41.2.2)))] ++ zz_wC a k z T41.1)) (wf := zz_wM b k) (S := T41.2.1) (st := []) (zz_upM T41) C zz_pM (fun u => zz_pM' u) rfl (fun l D v u hu => zc_X7_cost N l D k (a := b) T41.2.1 (xs (i + ((1 : Int32))).toNatClampNeg) (xs (i + ((2 : Int32))).toNatClampNeg) (xs (i + ((3 : Int32))).toNatClampNeg) (xs (i + ((4 : Int32))).toNatClampNeg) v u hu) gL_law_X7_cost rfl zd_X7_cost ⟨by decide, by decide⟩ ⟨by show nc + 1 + 0 ≤ 601024; omega, by show ns + 6 + 0 ≤ 7292999; omega⟩ rfl ⟨0, 7, _, _, _, zk_M0, rfl⟩ (Nat.le_of_ble_eq_true rfl) rfl dL_law_411 rfl rfl h (fun x45 T44 h => ?_)
      refine zr_is C [1, 2, 3, 4, 5, 6, 0] dL_law_414 rfl (by decide) (fun x46 => [(0, .ref (sb)), (1, .ref (a 0)), (2, .ref (b 0)), (3, .ref (ob)), (4, .int i), (5, .int x43), (6, .int x46)]) h (fun _ => rfl) (fun x46 h => ?_)
      refine zr_aln C 2 dL_law_416 rfl rfl rfl ?_
      refine zr_fVi (n' := (nc + 1, ns + 6)) (w' := zz_wL a b ob k z) (wr := ([(ob, .inl (k 1, 1, .inr (.inl T44.2.2)))] ++ zz_wC a k z T44.1)) (wf := zz_wM b k) (S := T44.2.1) (st := []) (zz_upM T44) C zz_pM (fun u => zz_pM' u) rfl (fun l D v u hu => zz_ro2_MI hu (fun v hv => zc_X7_thrown N l D k (a := b) T44.2.1  v hv)) gL_law_X7_thrown rfl zd_X7_thrown ⟨by decide, by decide⟩ ⟨by show nc + 1 + 0 ≤ 601024; omega, by show ns + 6 + 0 ≤ 7292999; omega⟩ rfl ⟨0, 7, _, _, _, zk_M0, rfl⟩ (Nat.le_of_ble_eq_true rfl) rfl dL_law_417 rfl rfl h (fun x48 T47 h => ?_)
      refine zr_il C 5 dL_law_420 rfl rfl ?_
      refine zr_icmp_eq (tgt := 427) C dL_law_422 (by decide) rfl h (fun h => ?_) (fun h => ?_)
      · refine zr_il C 5 dL_law_427 rfl rfl ?_
        refine zz_jn1_W h (fun (u49 : Unit) => zz_ww X (nc + 1, ns + 6) (zz_wL a b ob k z T47) 451 [(0, .ref (sb)), (1, .ref (a 0)), (2, .ref (b 0)), (3, .ref (ob)), (4, .int i)] []) ?_ ?_
        · intro u49 h
          refine zr_goto (tgt := 1080) C dL_law_451 (by decide) ?_
          refine zr_wide (n' := (nc + 2, ns + 12)) (by simp) (by simp) ?_
          exact hj3 T47 h
        intro j50 hj51 h
        refine zr_if_ne (tgt := 451) C dL_law_429 (by decide) rfl h (fun h => ?_) (fun h => ?_)
        · refine zr_sub [0, 1, 2, 3, 4] rfl ?_
          exact hj51 () h
        · refine zr_aln C 3 dL_law_432 rfl rfl rfl ?_
          refine zr_ic (v := (0 : Int32)) C dL_law_433 (by decide) rfl ?_
          refine zr_lald C 0 zk_L0 dL_law_434 rfl h (fun h => ?_)
          refine zr_il C 6 dL_law_435 rfl rfl ?_
          refine zz_jn1_W h (fun (v52 : Int64) => zz_ww X (nc + 1, ns + 6) (zz_wL a b ob k z T47) 445 [(0, .ref (sb)), (1, .ref (a 0)), (2, .ref (b 0)), (3, .ref (ob)), (4, .int i)] [.long v52, .long (T47.2.2 ((0 : Int32)).toNatClampNeg)]) ?_ ?_
          · intro v52 h
            refine zr_lcmp C dL_law_445 rfl ?_
            refine zr_if_eq (tgt := 451) C dL_law_446 (by decide) rfl h (fun h => ?_) (fun h => ?_)
            · exact hj51 () h
            · refine zr_ic (v := (0 : Int32)) C dL_law_449 (by decide) rfl ?_
              exact hret ((0 : Int32)) T47 450 _ (nc + 1, ns + 6) (by show nc + 1 ≤ 601024; omega) (by show ns + 6 ≤ 7292999; omega) dL_law_450 h
          intro j53 hj54 h
          refine zr_if_eq (tgt := 444) C dL_law_437 (by decide) rfl h (fun h => ?_) (fun h => ?_)
          · refine zr_lc (v := 0) C dL_law_444 (by decide) rfl ?_
            refine zr_sub [0, 1, 2, 3, 4] rfl ?_
            exact hj54 ((0 : Int64)) h
          · refine zr_lc (v := 1) C dL_law_440 (by decide) rfl ?_
            refine zr_goto (tgt := 445) C dL_law_441 (by decide) ?_
            refine zr_sub [0, 1, 2, 3, 4] rfl ?_
            exact hj54 ((1 : Int64)) h
      · refine zr_ic (v := (0 : Int32)) C dL_law_425 (by decide) rfl ?_
        exact hret ((0 : Int32)) T47 426 _ (nc + 1, ns + 6) (by show nc + 1 ≤ 601024; omega) (by show ns + 6 ≤ 7292999; omega) dL_law_426 h
    rw [if_neg hc40] at h
    by_cases hc55 : (xs i.toNatClampNeg) &&& ((15 : Int32)) = (4 : Int32)
    · rw [if_pos hc55] at h
      refine zr_tabIn (v := (4 : Int32)) (tgt := 454) C dL_law_81 hc55 (by decide) (by decide) rfl (by decide) ?_
      refine zr_aln C 1 dL_law_454 rfl rfl rfl ?_
      refine zr_aln C 0 dL_law_455 rfl rfl rfl ?_
      refine zr_il C 4 dL_law_456 rfl rfl ?_
      refine zr_ic (v := (1 : Int32)) C dL_law_458 (by decide) rfl ?_
      refine zr_iadd C dL_law_459 rfl ?_
      refine zr_sld C SX dL_law_460 rfl h (fun h => ?_)
      refine zr_aln C 3 dL_law_461 rfl rfl rfl ?_
      refine zr_fSH (n' := (nc + 1, ns + 6)) (w' := zz_wL a b ob k z) (wr := zz_wM b k T.2.1) (wf := zz_wH a ob k z) (S := (T.1, T.2.2)) (st := []) (zz_upH T) C TX zz_pH (fun u => zz_pH' u) rfl (fun l D v u hl hu => zc_L_run N l D k (a := a) (ob := ob) (z := z) T.1 T.2.2 (xs (i + ((1 : Int32))).toNatClampNeg) v u hl hu) gL_law_L_run rfl zd_L_run ⟨by decide, by decide⟩ ⟨by show nc + 0 + 1 ≤ 601024; omega, by show ns + 0 + 6 ≤ 7292999; omega⟩ rfl (Nat.le_of_ble_eq_true rfl) rfl dL_law_462 rfl rfl h (fun x57 T56 h => ?_)
      refine zr_is C [1, 2, 3, 4, 5, 0] dL_law_465 rfl (by decide) (fun x58 => [(0, .ref (sb)), (1, .ref (a 0)), (2, .ref (b 0)), (3, .ref (ob)), (4, .int i), (5, .int x58)]) h (fun _ => rfl) (fun x58 h => ?_)
      refine zr_aln C 2 dL_law_467 rfl rfl rfl ?_
      refine zr_aln C 0 dL_law_468 rfl rfl rfl ?_
      refine zr_il C 4 dL_law_469 rfl rfl ?_
      refine zr_ic (v := (1 : Int32)) C dL_law_471 (by decide) rfl ?_
      refine zr_iadd C dL_law_472 rfl ?_
      refine zr_sld C SX dL_law_473 rfl h (fun h => ?_)
      refine zr_fVi (n' := (nc + 1, ns + 6)) (w' := zz_wL a b ob k z) (wr := ([(ob, .inl (k 1, 1, .inr (.inl T56.2.2)))] ++ zz_wC a k z T56.1)) (wf := zz_wM b k) (S := T56.2.1) (st := []) (zz_upM T56) C zz_pM (fun u => zz_pM' u) rfl (fun l D v u hu => zc_X7_run N l D k (a := b) T56.2.1 (xs (i + ((1 : Int32))).toNatClampNeg) v u hu) gL_law_X7_run rfl zd_X7_run ⟨by decide, by decide⟩ ⟨by show nc + 1 + 0 ≤ 601024; omega, by show ns + 6 + 0 ≤ 7292999; omega⟩ rfl ⟨0, 7, _, _, _, zk_M0, rfl⟩ (Nat.le_of_ble_eq_true rfl) rfl dL_law_474 rfl rfl h (fun x60 T59 h => ?_)
      refine zr_is C [1, 2, 3, 4, 5, 6, 0] dL_law_477 rfl (by decide) (fun x61 => [(0, .ref (sb)), (1, .ref (a 0)), (2, .ref (b 0)), (3, .ref (ob)), (4, .int i), (5, .int x58), (6, .int x61)]) h (fun _ => rfl) (fun x61 h => ?_)
      refine zr_aln C 2 dL_law_479 rfl rfl rfl ?_
      refine zr_fVi (n' := (nc + 1, ns + 6)) (w' := zz_wL a b ob k z) (wr := ([(ob, .inl (k 1, 1, .inr (.inl T59.2.2)))] ++ zz_wC a k z T59.1)) (wf := zz_wM b k) (S := T59.2.1) (st := []) (zz_upM T59) C zz_pM (fun u => zz_pM' u) rfl (fun l D v u hu => zz_ro2_MI hu (fun v hv => zc_X7_thrown N l D k (a := b) T59.2.1  v hv)) gL_law_X7_thrown rfl zd_X7_thrown ⟨by decide, by decide⟩ ⟨by show nc + 1 + 0 ≤ 601024; omega, by show ns + 6 + 0 ≤ 7292999; omega⟩ rfl ⟨0, 7, _, _, _, zk_M0, rfl⟩ (Nat.le_of_ble_eq_true rfl) rfl dL_law_480 rfl rfl h (fun x63 T62 h => ?_)
      refine zr_il C 5 dL_law_483 rfl rfl ?_
      refine zr_icmp_eq (tgt := 490) C dL_law_485 (by decide) rfl h (fun h => ?_) (fun h => ?_)
      · refine zr_il C 5 dL_law_490 rfl rfl ?_
        refine zz_jn1_W h (fun (u64 : Unit) => zz_ww X (nc + 1, ns + 6) (zz_wL a b ob k z T62) 507 [(0, .ref (sb)), (1, .ref (a 0)), (2, .ref (b 0)), (3, .ref (ob)), (4, .int i)] []) ?_ ?_
        · intro u64 h
          refine zr_goto (tgt := 1080) C dL_law_507 (by decide) ?_
          refine zr_wide (n' := (nc + 2, ns + 12)) (by simp) (by simp) ?_
          exact hj3 T62 h
        intro j65 hj66 h
        refine zr_if_ne (tgt := 507) C dL_law_492 (by decide) rfl h (fun h => ?_) (fun h => ?_)
        · refine zr_sub [0, 1, 2, 3, 4] rfl ?_
          exact hj66 () h
        · refine zr_aln C 3 dL_law_495 rfl rfl rfl ?_
          refine zr_ic (v := (0 : Int32)) C dL_law_496 (by decide) rfl ?_
          refine zr_lald C 0 zk_L0 dL_law_497 rfl h (fun h => ?_)
          refine zr_il C 6 dL_law_498 rfl rfl ?_
          refine zr_i2l C dL_law_500 rfl ?_
          refine zr_lcmp C dL_law_501 rfl ?_
          refine zr_if_eq (tgt := 507) C dL_law_502 (by decide) rfl h (fun h => ?_) (fun h => ?_)
          · refine zr_sub [0, 1, 2, 3, 4] rfl ?_
            exact hj66 () h
          · refine zr_ic (v := (0 : Int32)) C dL_law_505 (by decide) rfl ?_
            exact hret ((0 : Int32)) T62 506 _ (nc + 1, ns + 6) (by show nc + 1 ≤ 601024; omega) (by show ns + 6 ≤ 7292999; omega) dL_law_506 h
      · refine zr_ic (v := (0 : Int32)) C dL_law_488 (by decide) rfl ?_
        exact hret ((0 : Int32)) T62 489 _ (nc + 1, ns + 6) (by show nc + 1 ≤ 601024; omega) (by show ns + 6 ≤ 7292999; omega) dL_law_489 h
    rw [if_neg hc55] at h
    by_cases hc67 : (xs i.toNatClampNeg) &&& ((15 : Int32)) = (5 : Int32)
    · rw [if_pos hc67] at h
      refine zr_tabIn (v := (5 : Int32)) (tgt := 510) C dL_law_81 hc67 (by decide) (by decide) rfl (by decide) ?_
      refine zr_aln C 1 dL_law_510 rfl rfl rfl ?_
      refine zr_aln C 0 dL_law_511 rfl rfl rfl ?_
      refine zr_il C 4 dL_law_512 rfl rfl ?_
      refine zr_ic (v := (1 : Int32)) C dL_law_514 (by decide) rfl ?_
      refine zr_iadd C dL_law_515 rfl ?_
      refine zr_sld C SX dL_law_516 rfl h (fun h => ?_)
      refine zr_aln C 0 dL_law_517 rfl rfl rfl ?_
      refine zr_il C 4 dL_law_518 rfl rfl ?_
      refine zr_ic (v := (2 : Int32)) C dL_law_520 (by decide) rfl ?_
      refine zr_iadd C dL_law_521 rfl ?_
      refine zr_sld C SX dL_law_522 rfl h (fun h => ?_)
      refine zr_aln C 0 dL_law_523 rfl rfl rfl ?_
      refine zr_il C 4 dL_law_524 rfl rfl ?_
      refine zr_ic (v := (3 : Int32)) C dL_law_526 (by decide) rfl ?_
      refine zr_iadd C dL_law_527 rfl ?_
      refine zr_sld C SX dL_law_528 rfl h (fun h => ?_)
      refine zr_aln C 3 dL_law_529 rfl rfl rfl ?_
      refine zr_fSH (n' := (nc + 2, ns + 12)) (w' := zz_wL a b ob k z) (wr := zz_wM b k T.2.1) (wf := zz_wH a ob k z) (S := (T.1, T.2.2)) (st := []) (zz_upH T) C TX zz_pH (fun u => zz_pH' u) rfl (fun l D v u hl hu => zc_L_piece N l D k (a := a) (ob := ob) (z := z) T.1 T.2.2 (xs (i + ((1 : Int32))).toNatClampNeg) (xs (i + ((2 : Int32))).toNatClampNeg) (xs (i + ((3 : Int32))).toNatClampNeg) v u hl hu) gL_law_L_piece rfl zd_L_piece ⟨by decide, by decide⟩ ⟨by show nc + 0 + 2 ≤ 601024; omega, by show ns + 0 + 12 ≤ 7292999; omega⟩ rfl (Nat.le_of_ble_eq_true rfl) rfl dL_law_530 rfl rfl h (fun x69 T68 h => ?_)
      refine zr_is C [1, 2, 3, 4, 5, 0] dL_law_533 rfl (by decide) (fun x70 => [(0, .ref (sb)), (1, .ref (a 0)), (2, .ref (b 0)), (3, .ref (ob)), (4, .int i), (5, .int x70)]) h (fun _ => rfl) (fun x70 h => ?_)
      refine zr_aln C 2 dL_law_535 rfl rfl rfl ?_
      refine zr_aln C 0 dL_law_536 rfl rfl rfl ?_
      refine zr_il C 4 dL_law_537 rfl rfl ?_
      refine zr_ic (v := (1 : Int32)) C dL_law_539 (by decide) rfl ?_
      refine zr_iadd C dL_law_540 rfl ?_
      refine zr_sld C SX dL_law_541 rfl h (fun h => ?_)
      refine zr_aln C 0 dL_law_542 rfl rfl rfl ?_
      refine zr_il C 4 dL_law_543 rfl rfl ?_
      refine zr_ic (v := (2 : Int32)) C dL_law_545 (by decide) rfl ?_
      refine zr_iadd C dL_law_546 rfl ?_
      refine zr_sld C SX dL_law_547 rfl h (fun h => ?_)
      refine zr_aln C 0 dL_law_548 rfl rfl rfl ?_
      refine zr_il C 4 dL_law_549 rfl rfl ?_
      refine zr_ic (v := (3 : Int32)) C dL_law_551 (by decide) rfl ?_
      refine zr_iadd C dL_law_552 rfl ?_
      refine zr_sld C SX dL_law_553 rfl h (fun h => ?_)
      refine zr_fVi (n' := (nc + 2, ns + 12)) (w' := zz_wL a b ob k z) (wr := ([(ob, .inl (k 1, 1, .inr (.inl T68.2.2)))] ++ zz_wC a k z T68.1)) (wf := zz_wM b k) (S := T68.2.1) (st := []) (zz_upM T68) C zz_pM (fun u => zz_pM' u) rfl (fun l D v u hu => zc_X7_piece N l D k (a := b) T68.2.1 (xs (i + ((1 : Int32))).toNatClampNeg) (xs (i + ((2 : Int32))).toNatClampNeg) (xs (i + ((3 : Int32))).toNatClampNeg) v u hu) gL_law_X7_piece rfl zd_X7_piece ⟨by decide, by decide⟩ ⟨by show nc + 2 + 0 ≤ 601024; omega, by show ns + 12 + 0 ≤ 7292999; omega⟩ rfl ⟨0, 7, _, _, _, zk_M0, rfl⟩ (Nat.le_of_ble_eq_true rfl) rfl dL_law_554 rfl rfl h (fun x72 T71 h => ?_)
      refine zr_is C [1, 2, 3, 4, 5, 6, 0] dL_law_557 rfl (by decide) (fun x73 => [(0, .ref (sb)), (1, .ref (a 0)), (2, .ref (b 0)), (3, .ref (ob)), (4, .int i), (5, .int x70), (6, .int x73)]) h (fun _ => rfl) (fun x73 h => ?_)
      refine zr_aln C 2 dL_law_559 rfl rfl rfl ?_
      refine zr_fVi (n' := (nc + 2, ns + 12)) (w' := zz_wL a b ob k z) (wr := ([(ob, .inl (k 1, 1, .inr (.inl T71.2.2)))] ++ zz_wC a k z T71.1)) (wf := zz_wM b k) (S := T71.2.1) (st := []) (zz_upM T71) C zz_pM (fun u => zz_pM' u) rfl (fun l D v u hu => zz_ro2_MI hu (fun v hv => zc_X7_thrown N l D k (a := b) T71.2.1  v hv)) gL_law_X7_thrown rfl zd_X7_thrown ⟨by decide, by decide⟩ ⟨by show nc + 2 + 0 ≤ 601024; omega, by show ns + 12 + 0 ≤ 7292999; omega⟩ rfl ⟨0, 7, _, _, _, zk_M0, rfl⟩ (Nat.le_of_ble_eq_true rfl) rfl dL_law_560 rfl rfl h (fun x75 T74 h => ?_)
      refine zr_il C 5 dL_law_563 rfl rfl ?_
      refine zr_icmp_eq (tgt := 570) C dL_law_565 (by decide) rfl h (fun h => ?_) (fun h => ?_)
      · refine zr_il C 5 dL_law_570 rfl rfl ?_
        refine zz_jn1_W h (fun (u76 : Unit) => zz_ww X (nc + 2, ns + 12) (zz_wL a b ob k z T74) 587 [(0, .ref (sb)), (1, .ref (a 0)), (2, .ref (b 0)), (3, .ref (ob)), (4, .int i)] []) ?_ ?_
        · intro u76 h
          refine zr_goto (tgt := 1080) C dL_law_587 (by decide) ?_
          exact hj3 T74 h
        intro j77 hj78 h
        refine zr_if_ne (tgt := 587) C dL_law_572 (by decide) rfl h (fun h => ?_) (fun h => ?_)
        · refine zr_sub [0, 1, 2, 3, 4] rfl ?_
          exact hj78 () h
        · refine zr_aln C 3 dL_law_575 rfl rfl rfl ?_
          refine zr_ic (v := (0 : Int32)) C dL_law_576 (by decide) rfl ?_
          refine zr_lald C 0 zk_L0 dL_law_577 rfl h (fun h => ?_)
          refine zr_il C 6 dL_law_578 rfl rfl ?_
          refine zr_i2l C dL_law_580 rfl ?_
          refine zr_lcmp C dL_law_581 rfl ?_
          refine zr_if_eq (tgt := 587) C dL_law_582 (by decide) rfl h (fun h => ?_) (fun h => ?_)
          · refine zr_sub [0, 1, 2, 3, 4] rfl ?_
            exact hj78 () h
          · refine zr_ic (v := (0 : Int32)) C dL_law_585 (by decide) rfl ?_
            exact hret ((0 : Int32)) T74 586 _ (nc + 2, ns + 12) (by show nc + 2 ≤ 601024; omega) (by show ns + 12 ≤ 7292999; omega) dL_law_586 h
      · refine zr_ic (v := (0 : Int32)) C dL_law_568 (by decide) rfl ?_
        exact hret ((0 : Int32)) T74 569 _ (nc + 2, ns + 12) (by show nc + 2 ≤ 601024; omega) (by show ns + 12 ≤ 7292999; omega) dL_law_569 h
    rw [if_neg hc67] at h
    by_cases hc79 : (xs i.toNatClampNeg) &&& ((15 : Int32)) = (6 : Int32)
    · rw [if_pos hc79] at h
      refine zr_tabIn (v := (6 : Int32)) (tgt := 590) C dL_law_81 hc79 (by decide) (by decide) rfl (by decide) ?_
      refine zr_aln C 1 dL_law_590 rfl rfl rfl ?_
      refine zr_aln C 0 dL_law_591 rfl rfl rfl ?_
      refine zr_il C 4 dL_law_592 rfl rfl ?_
      refine zr_ic (v := (1 : Int32)) C dL_law_594 (by decide) rfl ?_
      refine zr_iadd C dL_law_595 rfl ?_
      refine zr_sld C SX dL_law_596 rfl h (fun h => ?_)
      refine zr_aln C 3 dL_law_597 rfl rfl rfl ?_
      refine zr_fSH (n' := (nc + 1, ns + 6)) (w' := zz_wL a b ob k z) (wr := zz_wM b k T.2.1) (wf := zz_wH a ob k z) (S := (T.1, T.2.2)) (st := []) (zz_upH T) C TX zz_pH (fun u => zz_pH' u) rfl (fun l D v u hl hu => zc_L_costOf N l D k (a := a) (ob := ob) (z := z) T.1 T.2.2 (xs (i + ((1 : Int32))).toNatClampNeg) v u hl hu) gL_law_L_costOf rfl zd_L_costOf ⟨by decide, by decide⟩ ⟨by show nc + 0 + 1 ≤ 601024; omega, by show ns + 0 + 6 ≤ 7292999; omega⟩ rfl (Nat.le_of_ble_eq_true rfl) rfl dL_law_598 rfl rfl h (fun x81 T80 h => ?_)
      refine zr_is C [1, 2, 3, 4, 5, 0] dL_law_601 rfl (by decide) (fun x82 => [(0, .ref (sb)), (1, .ref (a 0)), (2, .ref (b 0)), (3, .ref (ob)), (4, .int i), (5, .int x82)]) h (fun _ => rfl) (fun x82 h => ?_)
      refine zr_aln C 2 dL_law_603 rfl rfl rfl ?_
      refine zr_aln C 0 dL_law_604 rfl rfl rfl ?_
      refine zr_il C 4 dL_law_605 rfl rfl ?_
      refine zr_ic (v := (1 : Int32)) C dL_law_607 (by decide) rfl ?_
      refine zr_iadd C dL_law_608 rfl ?_
      refine zr_sld C SX dL_law_609 rfl h (fun h => ?_)
      refine zr_fVl (n' := (nc + 1, ns + 6)) (w' := zz_wL a b ob k z) (wr := ([(ob, .inl (k 1, 1, .inr (.inl T80.2.2)))] ++ zz_wC a k z T80.1)) (wf := zz_wM b k) (S := T80.2.1) (st := []) (zz_upM T80) C zz_pM (fun u => zz_pM' u) rfl (fun l D v u hu => zc_X7_costOf N l D k (a := b) T80.2.1 (xs (i + ((1 : Int32))).toNatClampNeg) v u hu) gL_law_X7_costOf rfl zd_X7_costOf ⟨by decide, by decide⟩ ⟨by show nc + 1 + 0 ≤ 601024; omega, by show ns + 6 + 0 ≤ 7292999; omega⟩ rfl ⟨0, 7, _, _, _, zk_M0, rfl⟩ (Nat.le_of_ble_eq_true rfl) rfl dL_law_610 rfl rfl h (fun x84 T83 h => ?_)
      refine zr_ls C [1, 2, 3, 4, 5, 6, 0] dL_law_613 rfl (by decide) (fun x85 => [(0, .ref (sb)), (1, .ref (a 0)), (2, .ref (b 0)), (3, .ref (ob)), (4, .int i), (5, .int x82), (6, .long x85)]) h (fun _ => rfl) (fun x85 h => ?_)
      refine zr_aln C 2 dL_law_615 rfl rfl rfl ?_
      refine zr_fVi (n' := (nc + 1, ns + 6)) (w' := zz_wL a b ob k z) (wr := ([(ob, .inl (k 1, 1, .inr (.inl T83.2.2)))] ++ zz_wC a k z T83.1)) (wf := zz_wM b k) (S := T83.2.1) (st := []) (zz_upM T83) C zz_pM (fun u => zz_pM' u) rfl (fun l D v u hu => zz_ro2_MI hu (fun v hv => zc_X7_thrown N l D k (a := b) T83.2.1  v hv)) gL_law_X7_thrown rfl zd_X7_thrown ⟨by decide, by decide⟩ ⟨by show nc + 1 + 0 ≤ 601024; omega, by show ns + 6 + 0 ≤ 7292999; omega⟩ rfl ⟨0, 7, _, _, _, zk_M0, rfl⟩ (Nat.le_of_ble_eq_true rfl) rfl dL_law_616 rfl rfl h (fun x87 T86 h => ?_)
      refine zr_il C 5 dL_law_619 rfl rfl ?_
      refine zr_icmp_eq (tgt := 626) C dL_law_621 (by decide) rfl h (fun h => ?_) (fun h => ?_)
      · refine zr_il C 5 dL_law_626 rfl rfl ?_
        refine zz_jn1_W h (fun (u88 : Unit) => zz_ww X (nc + 1, ns + 6) (zz_wL a b ob k z T86) 642 [(0, .ref (sb)), (1, .ref (a 0)), (2, .ref (b 0)), (3, .ref (ob)), (4, .int i)] []) ?_ ?_
        · intro u88 h
          refine zr_goto (tgt := 1080) C dL_law_642 (by decide) ?_
          refine zr_wide (n' := (nc + 2, ns + 12)) (by simp) (by simp) ?_
          exact hj3 T86 h
        intro j89 hj90 h
        refine zr_if_ne (tgt := 642) C dL_law_628 (by decide) rfl h (fun h => ?_) (fun h => ?_)
        · refine zr_sub [0, 1, 2, 3, 4] rfl ?_
          exact hj90 () h
        · refine zr_aln C 3 dL_law_631 rfl rfl rfl ?_
          refine zr_ic (v := (0 : Int32)) C dL_law_632 (by decide) rfl ?_
          refine zr_lald C 0 zk_L0 dL_law_633 rfl h (fun h => ?_)
          refine zr_ll C 6 dL_law_634 rfl rfl ?_
          refine zr_lcmp C dL_law_636 rfl ?_
          refine zr_if_eq (tgt := 642) C dL_law_637 (by decide) rfl h (fun h => ?_) (fun h => ?_)
          · refine zr_sub [0, 1, 2, 3, 4] rfl ?_
            exact hj90 () h
          · refine zr_ic (v := (0 : Int32)) C dL_law_640 (by decide) rfl ?_
            exact hret ((0 : Int32)) T86 641 _ (nc + 1, ns + 6) (by show nc + 1 ≤ 601024; omega) (by show ns + 6 ≤ 7292999; omega) dL_law_641 h
      · refine zr_ic (v := (0 : Int32)) C dL_law_624 (by decide) rfl ?_
        exact hret ((0 : Int32)) T86 625 _ (nc + 1, ns + 6) (by show nc + 1 ≤ 601024; omega) (by show ns + 6 ≤ 7292999; omega) dL_law_625 h
    rw [if_neg hc79] at h
    by_cases hc91 : (xs i.toNatClampNeg) &&& ((15 : Int32)) = (7 : Int32)
    · rw [if_pos hc91] at h
      refine zr_tabIn (v := (7 : Int32)) (tgt := 645) C dL_law_81 hc91 (by decide) (by decide) rfl (by decide) ?_
      refine zr_aln C 1 dL_law_645 rfl rfl rfl ?_
      refine zr_aln C 0 dL_law_646 rfl rfl rfl ?_
      refine zr_il C 4 dL_law_647 rfl rfl ?_
      refine zr_ic (v := (1 : Int32)) C dL_law_649 (by decide) rfl ?_
      refine zr_iadd C dL_law_650 rfl ?_
      refine zr_sld C SX dL_law_651 rfl h (fun h => ?_)
      refine zr_aln C 3 dL_law_652 rfl rfl rfl ?_
      refine zr_fSH (n' := (nc + 1, ns + 6)) (w' := zz_wL a b ob k z) (wr := zz_wM b k T.2.1) (wf := zz_wH a ob k z) (S := (T.1, T.2.2)) (st := []) (zz_upH T) C TX zz_pH (fun u => zz_pH' u) rfl (fun l D v u hl hu => zc_L_ripped N l D k (a := a) (ob := ob) (z := z) T.1 T.2.2 (xs (i + ((1 : Int32))).toNatClampNeg) v u hl hu) gL_law_L_ripped rfl zd_L_ripped ⟨by decide, by decide⟩ ⟨by show nc + 0 + 1 ≤ 601024; omega, by show ns + 0 + 6 ≤ 7292999; omega⟩ rfl (Nat.le_of_ble_eq_true rfl) rfl dL_law_653 rfl rfl h (fun x93 T92 h => ?_)
      refine zr_is C [1, 2, 3, 4, 5, 0] dL_law_656 rfl (by decide) (fun x94 => [(0, .ref (sb)), (1, .ref (a 0)), (2, .ref (b 0)), (3, .ref (ob)), (4, .int i), (5, .int x94)]) h (fun _ => rfl) (fun x94 h => ?_)
      refine zr_aln C 2 dL_law_658 rfl rfl rfl ?_
      refine zr_aln C 0 dL_law_659 rfl rfl rfl ?_
      refine zr_il C 4 dL_law_660 rfl rfl ?_
      refine zr_ic (v := (1 : Int32)) C dL_law_662 (by decide) rfl ?_
      refine zr_iadd C dL_law_663 rfl ?_
      refine zr_sld C SX dL_law_664 rfl h (fun h => ?_)
      refine zr_fVi (n' := (nc + 1, ns + 6)) (w' := zz_wL a b ob k z) (wr := ([(ob, .inl (k 1, 1, .inr (.inl T92.2.2)))] ++ zz_wC a k z T92.1)) (wf := zz_wM b k) (S := T92.2.1) (st := []) (zz_upM T92) C zz_pM (fun u => zz_pM' u) rfl (fun l D v u hu => zc_X7_ripped N l D k (a := b) T92.2.1 (xs (i + ((1 : Int32))).toNatClampNeg) v u hu) gL_law_X7_ripped rfl zd_X7_ripped ⟨by decide, by decide⟩ ⟨by show nc + 1 + 0 ≤ 601024; omega, by show ns + 6 + 0 ≤ 7292999; omega⟩ rfl ⟨0, 7, _, _, _, zk_M0, rfl⟩ (Nat.le_of_ble_eq_true rfl) rfl dL_law_665 rfl rfl h (fun x96 T95 h => ?_)
      refine zr_is C [1, 2, 3, 4, 5, 6, 0] dL_law_668 rfl (by decide) (fun x97 => [(0, .ref (sb)), (1, .ref (a 0)), (2, .ref (b 0)), (3, .ref (ob)), (4, .int i), (5, .int x94), (6, .int x97)]) h (fun _ => rfl) (fun x97 h => ?_)
      refine zr_aln C 2 dL_law_670 rfl rfl rfl ?_
      refine zr_fVi (n' := (nc + 1, ns + 6)) (w' := zz_wL a b ob k z) (wr := ([(ob, .inl (k 1, 1, .inr (.inl T95.2.2)))] ++ zz_wC a k z T95.1)) (wf := zz_wM b k) (S := T95.2.1) (st := []) (zz_upM T95) C zz_pM (fun u => zz_pM' u) rfl (fun l D v u hu => zz_ro2_MI hu (fun v hv => zc_X7_thrown N l D k (a := b) T95.2.1  v hv)) gL_law_X7_thrown rfl zd_X7_thrown ⟨by decide, by decide⟩ ⟨by show nc + 1 + 0 ≤ 601024; omega, by show ns + 6 + 0 ≤ 7292999; omega⟩ rfl ⟨0, 7, _, _, _, zk_M0, rfl⟩ (Nat.le_of_ble_eq_true rfl) rfl dL_law_671 rfl rfl h (fun x99 T98 h => ?_)
      refine zr_il C 5 dL_law_674 rfl rfl ?_
      refine zr_icmp_eq (tgt := 681) C dL_law_676 (by decide) rfl h (fun h => ?_) (fun h => ?_)
      · refine zr_il C 5 dL_law_681 rfl rfl ?_
        refine zz_jn1_W h (fun (u100 : Unit) => zz_ww X (nc + 1, ns + 6) (zz_wL a b ob k z T98) 698 [(0, .ref (sb)), (1, .ref (a 0)), (2, .ref (b 0)), (3, .ref (ob)), (4, .int i)] []) ?_ ?_
        · intro u100 h
          refine zr_goto (tgt := 1080) C dL_law_698 (by decide) ?_
          refine zr_wide (n' := (nc + 2, ns + 12)) (by simp) (by simp) ?_
          exact hj3 T98 h
        intro j101 hj102 h
        refine zr_if_ne (tgt := 698) C dL_law_683 (by decide) rfl h (fun h => ?_) (fun h => ?_)
        · refine zr_sub [0, 1, 2, 3, 4] rfl ?_
          exact hj102 () h
        · refine zr_aln C 3 dL_law_686 rfl rfl rfl ?_
          refine zr_ic (v := (0 : Int32)) C dL_law_687 (by decide) rfl ?_
          refine zr_lald C 0 zk_L0 dL_law_688 rfl h (fun h => ?_)
          refine zr_il C 6 dL_law_689 rfl rfl ?_
          refine zr_i2l C dL_law_691 rfl ?_
          refine zr_lcmp C dL_law_692 rfl ?_
          refine zr_if_eq (tgt := 698) C dL_law_693 (by decide) rfl h (fun h => ?_) (fun h => ?_)
          · refine zr_sub [0, 1, 2, 3, 4] rfl ?_
            exact hj102 () h
          · refine zr_ic (v := (0 : Int32)) C dL_law_696 (by decide) rfl ?_
            exact hret ((0 : Int32)) T98 697 _ (nc + 1, ns + 6) (by show nc + 1 ≤ 601024; omega) (by show ns + 6 ≤ 7292999; omega) dL_law_697 h
      · refine zr_ic (v := (0 : Int32)) C dL_law_679 (by decide) rfl ?_
        exact hret ((0 : Int32)) T98 680 _ (nc + 1, ns + 6) (by show nc + 1 ≤ 601024; omega) (by show ns + 6 ≤ 7292999; omega) dL_law_680 h
    rw [if_neg hc91] at h
    by_cases hc103 : (xs i.toNatClampNeg) &&& ((15 : Int32)) = (8 : Int32)
    · rw [if_pos hc103] at h
      refine zr_tabIn (v := (8 : Int32)) (tgt := 701) C dL_law_81 hc103 (by decide) (by decide) rfl (by decide) ?_
      refine zr_aln C 1 dL_law_701 rfl rfl rfl ?_
      refine zr_aln C 0 dL_law_702 rfl rfl rfl ?_
      refine zr_il C 4 dL_law_703 rfl rfl ?_
      refine zr_ic (v := (1 : Int32)) C dL_law_705 (by decide) rfl ?_
      refine zr_iadd C dL_law_706 rfl ?_
      refine zr_sld C SX dL_law_707 rfl h (fun h => ?_)
      refine zr_aln C 0 dL_law_708 rfl rfl rfl ?_
      refine zr_il C 4 dL_law_709 rfl rfl ?_
      refine zr_ic (v := (2 : Int32)) C dL_law_711 (by decide) rfl ?_
      refine zr_iadd C dL_law_712 rfl ?_
      refine zr_sld C SX dL_law_713 rfl h (fun h => ?_)
      refine zr_aln C 0 dL_law_714 rfl rfl rfl ?_
      refine zr_il C 4 dL_law_715 rfl rfl ?_
      refine zr_ic (v := (3 : Int32)) C dL_law_717 (by decide) rfl ?_
      refine zr_iadd C dL_law_718 rfl ?_
      refine zr_sld C SX dL_law_719 rfl h (fun h => ?_)
      refine zr_aln C 3 dL_law_720 rfl rfl rfl ?_
      refine zr_fSH (n' := (nc + 1, ns + 6)) (w' := zz_wL a b ob k z) (wr := zz_wM b k T.2.1) (wf := zz_wH a ob k z) (S := (T.1, T.2.2)) (st := []) (zz_upH T) C TX zz_pH (fun u => zz_pH' u) rfl (fun l D v u hl hu => zc_L_history N l D k (a := a) (ob := ob) (z := z) T.1 T.2.2 (xs (i + ((1 : Int32))).toNatClampNeg) (xs (i + ((2 : Int32))).toNatClampNeg) (xs (i + ((3 : Int32))).toNatClampNeg) v u hl hu) gL_law_L_history rfl zd_L_history ⟨by decide, by decide⟩ ⟨by show nc + 0 + 1 ≤ 601024; omega, by show ns + 0 + 6 ≤ 7292999; omega⟩ rfl (Nat.le_of_ble_eq_true rfl) rfl dL_law_721 rfl rfl h (fun x105 T104 h => ?_)
      refine zr_is C [1, 2, 3, 4, 5, 0] dL_law_724 rfl (by decide) (fun x106 => [(0, .ref (sb)), (1, .ref (a 0)), (2, .ref (b 0)), (3, .ref (ob)), (4, .int i), (5, .int x106)]) h (fun _ => rfl) (fun x106 h => ?_)
      refine zr_aln C 2 dL_law_726 rfl rfl rfl ?_
      refine zr_aln C 0 dL_law_727 rfl rfl rfl ?_
      refine zr_il C 4 dL_law_728 rfl rfl ?_
      refine zr_ic (v := (1 : Int32)) C dL_law_730 (by decide) rfl ?_
      refine zr_iadd C dL_law_731 rfl ?_
      refine zr_sld C SX dL_law_732 rfl h (fun h => ?_)
      refine zr_aln C 0 dL_law_733 rfl rfl rfl ?_
      refine zr_il C 4 dL_law_734 rfl rfl ?_
      refine zr_ic (v := (2 : Int32)) C dL_law_736 (by decide) rfl ?_
      refine zr_iadd C dL_law_737 rfl ?_
      refine zr_sld C SX dL_law_738 rfl h (fun h => ?_)
      refine zr_aln C 0 dL_law_739 rfl rfl rfl ?_
      refine zr_il C 4 dL_law_740 rfl rfl ?_
      refine zr_ic (v := (3 : Int32)) C dL_law_742 (by decide) rfl ?_
      refine zr_iadd C dL_law_743 rfl ?_
      refine zr_sld C SX dL_law_744 rfl h (fun h => ?_)
      refine zr_fVl (n' := (nc + 1, ns + 6)) (w' := zz_wL a b ob k z) (wr := ([(ob, .inl (k 1, 1, .inr (.inl T104.2.2)))] ++ zz_wC a k z T104.1)) (wf := zz_wM b k) (S := T104.2.1) (st := []) (zz_upM T104) C zz_pM (fun u => zz_pM' u) rfl (fun l D v u hu => zc_X7_history N l D k (a := b) T104.2.1 (xs (i + ((1 : Int32))).toNatClampNeg) (xs (i + ((2 : Int32))).toNatClampNeg) (xs (i + ((3 : Int32))).toNatClampNeg) v u hu) gL_law_X7_history rfl zd_X7_history ⟨by decide, by decide⟩ ⟨by show nc + 1 + 0 ≤ 601024; omega, by show ns + 6 + 0 ≤ 7292999; omega⟩ rfl ⟨0, 7, _, _, _, zk_M0, rfl⟩ (Nat.le_of_ble_eq_true rfl) rfl dL_law_745 rfl rfl h (fun x108 T107 h => ?_)
      refine zr_ls C [1, 2, 3, 4, 5, 6, 0] dL_law_748 rfl (by decide) (fun x109 => [(0, .ref (sb)), (1, .ref (a 0)), (2, .ref (b 0)), (3, .ref (ob)), (4, .int i), (5, .int x106), (6, .long x109)]) h (fun _ => rfl) (fun x109 h => ?_)
      refine zr_aln C 2 dL_law_750 rfl rfl rfl ?_
      refine zr_fVi (n' := (nc + 1, ns + 6)) (w' := zz_wL a b ob k z) (wr := ([(ob, .inl (k 1, 1, .inr (.inl T107.2.2)))] ++ zz_wC a k z T107.1)) (wf := zz_wM b k) (S := T107.2.1) (st := []) (zz_upM T107) C zz_pM (fun u => zz_pM' u) rfl (fun l D v u hu => zz_ro2_MI hu (fun v hv => zc_X7_thrown N l D k (a := b) T107.2.1  v hv)) gL_law_X7_thrown rfl zd_X7_thrown ⟨by decide, by decide⟩ ⟨by show nc + 1 + 0 ≤ 601024; omega, by show ns + 6 + 0 ≤ 7292999; omega⟩ rfl ⟨0, 7, _, _, _, zk_M0, rfl⟩ (Nat.le_of_ble_eq_true rfl) rfl dL_law_751 rfl rfl h (fun x111 T110 h => ?_)
      refine zr_il C 5 dL_law_754 rfl rfl ?_
      refine zr_icmp_eq (tgt := 761) C dL_law_756 (by decide) rfl h (fun h => ?_) (fun h => ?_)
      · refine zr_il C 5 dL_law_761 rfl rfl ?_
        refine zz_jn1_W h (fun (u112 : Unit) => zz_ww X (nc + 1, ns + 6) (zz_wL a b ob k z T110) 777 [(0, .ref (sb)), (1, .ref (a 0)), (2, .ref (b 0)), (3, .ref (ob)), (4, .int i)] []) ?_ ?_
        · intro u112 h
          refine zr_goto (tgt := 1080) C dL_law_777 (by decide) ?_
          refine zr_wide (n' := (nc + 2, ns + 12)) (by simp) (by simp) ?_
          exact hj3 T110 h
        intro j113 hj114 h
        refine zr_if_ne (tgt := 777) C dL_law_763 (by decide) rfl h (fun h => ?_) (fun h => ?_)
        · refine zr_sub [0, 1, 2, 3, 4] rfl ?_
          exact hj114 () h
        · refine zr_aln C 3 dL_law_766 rfl rfl rfl ?_
          refine zr_ic (v := (0 : Int32)) C dL_law_767 (by decide) rfl ?_
          refine zr_lald C 0 zk_L0 dL_law_768 rfl h (fun h => ?_)
          refine zr_ll C 6 dL_law_769 rfl rfl ?_
          refine zr_lcmp C dL_law_771 rfl ?_
          refine zr_if_eq (tgt := 777) C dL_law_772 (by decide) rfl h (fun h => ?_) (fun h => ?_)
          · refine zr_sub [0, 1, 2, 3, 4] rfl ?_
            exact hj114 () h
          · refine zr_ic (v := (0 : Int32)) C dL_law_775 (by decide) rfl ?_
            exact hret ((0 : Int32)) T110 776 _ (nc + 1, ns + 6) (by show nc + 1 ≤ 601024; omega) (by show ns + 6 ≤ 7292999; omega) dL_law_776 h
      · refine zr_ic (v := (0 : Int32)) C dL_law_759 (by decide) rfl ?_
        exact hret ((0 : Int32)) T110 760 _ (nc + 1, ns + 6) (by show nc + 1 ≤ 601024; omega) (by show ns + 6 ≤ 7292999; omega) dL_law_760 h
    rw [if_neg hc103] at h
    by_cases hc115 : (xs i.toNatClampNeg) &&& ((15 : Int32)) = (9 : Int32)
    · rw [if_pos hc115] at h
      refine zr_tabIn (v := (9 : Int32)) (tgt := 780) C dL_law_81 hc115 (by decide) (by decide) rfl (by decide) ?_
      refine zr_aln C 1 dL_law_780 rfl rfl rfl ?_
      refine zr_aln C 0 dL_law_781 rfl rfl rfl ?_
      refine zr_il C 4 dL_law_782 rfl rfl ?_
      refine zr_ic (v := (1 : Int32)) C dL_law_784 (by decide) rfl ?_
      refine zr_iadd C dL_law_785 rfl ?_
      refine zr_sld C SX dL_law_786 rfl h (fun h => ?_)
      refine zr_fVi (n' := (nc, ns)) (w' := zz_wL a b ob k z) (wr := ([(ob, .inl (k 1, 1, .inr (.inl T.2.2)))] ++ zz_wM b k T.2.1)) (wf := zz_wC a k z) (S := T.1) (st := []) (zz_upC T) C zz_pC (fun u => zz_pC' u) rfl (fun l D v u hu => zz_ro2_MI hu (fun v hv => zc_X6_open N l D k (a := a) (z := z) T.1 (xs (i + ((1 : Int32))).toNatClampNeg) v hv)) gL_law_X6_open rfl zd_X6_open ⟨by decide, by decide⟩ ⟨by show nc + 0 + 0 ≤ 601024; omega, by show ns + 0 + 0 ≤ 7292999; omega⟩ rfl ⟨0, 6, _, _, _, zk_C0, rfl⟩ (Nat.le_of_ble_eq_true rfl) rfl dL_law_787 rfl rfl h (fun x117 T116 h => ?_)
      refine zr_aln C 2 dL_law_790 rfl rfl rfl ?_
      refine zr_aln C 0 dL_law_791 rfl rfl rfl ?_
      refine zr_il C 4 dL_law_792 rfl rfl ?_
      refine zr_ic (v := (1 : Int32)) C dL_law_794 (by decide) rfl ?_
      refine zr_iadd C dL_law_795 rfl ?_
      refine zr_sld C SX dL_law_796 rfl h (fun h => ?_)
      refine zr_fVi (n' := (nc, ns)) (w' := zz_wL a b ob k z) (wr := ([(ob, .inl (k 1, 1, .inr (.inl T116.2.2)))] ++ zz_wC a k z T116.1)) (wf := zz_wM b k) (S := T116.2.1) (st := [.int x117]) (zz_upM T116) C zz_pM (fun u => zz_pM' u) rfl (fun l D v u hu => zc_X7_open N l D k (a := b) T116.2.1 (xs (i + ((1 : Int32))).toNatClampNeg) v u hu) gL_law_X7_open rfl zd_X7_open ⟨by decide, by decide⟩ ⟨by show nc + 0 + 0 ≤ 601024; omega, by show ns + 0 + 0 ≤ 7292999; omega⟩ rfl ⟨0, 7, _, _, _, zk_M0, rfl⟩ (Nat.le_of_ble_eq_true rfl) rfl dL_law_797 rfl rfl h (fun x119 T118 h => ?_)
      refine zr_icmp_eq (tgt := 1080) C dL_law_800 (by decide) rfl h (fun h => ?_) (fun h => ?_)
      · refine zr_wide (n' := (nc + 2, ns + 12)) (by simp) (by simp) ?_
        exact hj3 T118 h
      · refine zr_ic (v := (0 : Int32)) C dL_law_803 (by decide) rfl ?_
        exact hret ((0 : Int32)) T118 804 _ (nc, ns) (by show nc + 0 ≤ 601024; omega) (by show ns + 0 ≤ 7292999; omega) dL_law_804 h
    rw [if_neg hc115] at h
    by_cases hc120 : (xs i.toNatClampNeg) &&& ((15 : Int32)) = (10 : Int32)
    · rw [if_pos hc120] at h
      refine zr_tabIn (v := (10 : Int32)) (tgt := 805) C dL_law_81 hc120 (by decide) (by decide) rfl (by decide) ?_
      refine zr_aln C 1 dL_law_805 rfl rfl rfl ?_
      refine zr_aln C 0 dL_law_806 rfl rfl rfl ?_
      refine zr_il C 4 dL_law_807 rfl rfl ?_
      refine zr_ic (v := (1 : Int32)) C dL_law_809 (by decide) rfl ?_
      refine zr_iadd C dL_law_810 rfl ?_
      refine zr_sld C SX dL_law_811 rfl h (fun h => ?_)
      refine zr_aln C 0 dL_law_812 rfl rfl rfl ?_
      refine zr_il C 4 dL_law_813 rfl rfl ?_
      refine zr_ic (v := (2 : Int32)) C dL_law_815 (by decide) rfl ?_
      refine zr_iadd C dL_law_816 rfl ?_
      refine zr_sld C SX dL_law_817 rfl h (fun h => ?_)
      refine zr_aln C 3 dL_law_818 rfl rfl rfl ?_
      refine zr_fSH (n' := (nc + 1, ns + 6)) (w' := zz_wL a b ob k z) (wr := zz_wM b k T.2.1) (wf := zz_wH a ob k z) (S := (T.1, T.2.2)) (st := []) (zz_upH T) C TX zz_pH (fun u => zz_pH' u) rfl (fun l D v u hl hu => zc_L_blocking N l D k (a := a) (ob := ob) (z := z) T.1 T.2.2 (xs (i + ((1 : Int32))).toNatClampNeg) (xs (i + ((2 : Int32))).toNatClampNeg) v u hl hu) gL_law_L_blocking rfl zd_L_blocking ⟨by decide, by decide⟩ ⟨by show nc + 0 + 1 ≤ 601024; omega, by show ns + 0 + 6 ≤ 7292999; omega⟩ rfl (Nat.le_of_ble_eq_true rfl) rfl dL_law_819 rfl rfl h (fun x122 T121 h => ?_)
      refine zr_is C [1, 2, 3, 4, 5, 0] dL_law_822 rfl (by decide) (fun x123 => [(0, .ref (sb)), (1, .ref (a 0)), (2, .ref (b 0)), (3, .ref (ob)), (4, .int i), (5, .int x123)]) h (fun _ => rfl) (fun x123 h => ?_)
      refine zr_aln C 2 dL_law_824 rfl rfl rfl ?_
      refine zr_aln C 0 dL_law_825 rfl rfl rfl ?_
      refine zr_il C 4 dL_law_826 rfl rfl ?_
      refine zr_ic (v := (1 : Int32)) C dL_law_828 (by decide) rfl ?_
      refine zr_iadd C dL_law_829 rfl ?_
      refine zr_sld C SX dL_law_830 rfl h (fun h => ?_)
      refine zr_aln C 0 dL_law_831 rfl rfl rfl ?_
      refine zr_il C 4 dL_law_832 rfl rfl ?_
      refine zr_ic (v := (2 : Int32)) C dL_law_834 (by decide) rfl ?_
      refine zr_iadd C dL_law_835 rfl ?_
      refine zr_sld C SX dL_law_836 rfl h (fun h => ?_)
      refine zr_fVi (n' := (nc + 1, ns + 6)) (w' := zz_wL a b ob k z) (wr := ([(ob, .inl (k 1, 1, .inr (.inl T121.2.2)))] ++ zz_wC a k z T121.1)) (wf := zz_wM b k) (S := T121.2.1) (st := []) (zz_upM T121) C zz_pM (fun u => zz_pM' u) rfl (fun l D v u hu => zc_X7_blocking N l D k (a := b) T121.2.1 (xs (i + ((1 : Int32))).toNatClampNeg) (xs (i + ((2 : Int32))).toNatClampNeg) v u hu) gL_law_X7_blocking rfl zd_X7_blocking ⟨by decide, by decide⟩ ⟨by show nc + 1 + 0 ≤ 601024; omega, by show ns + 6 + 0 ≤ 7292999; omega⟩ rfl ⟨0, 7, _, _, _, zk_M0, rfl⟩ (Nat.le_of_ble_eq_true rfl) rfl dL_law_837 rfl rfl h (fun x125 T124 h => ?_)
      refine zr_is C [1, 2, 3, 4, 5, 6, 0] dL_law_840 rfl (by decide) (fun x126 => [(0, .ref (sb)), (1, .ref (a 0)), (2, .ref (b 0)), (3, .ref (ob)), (4, .int i), (5, .int x123), (6, .int x126)]) h (fun _ => rfl) (fun x126 h => ?_)
      refine zr_aln C 2 dL_law_842 rfl rfl rfl ?_
      refine zr_fVi (n' := (nc + 1, ns + 6)) (w' := zz_wL a b ob k z) (wr := ([(ob, .inl (k 1, 1, .inr (.inl T124.2.2)))] ++ zz_wC a k z T124.1)) (wf := zz_wM b k) (S := T124.2.1) (st := []) (zz_upM T124) C zz_pM (fun u => zz_pM' u) rfl (fun l D v u hu => zz_ro2_MI hu (fun v hv => zc_X7_thrown N l D k (a := b) T124.2.1  v hv)) gL_law_X7_thrown rfl zd_X7_thrown ⟨by decide, by decide⟩ ⟨by show nc + 1 + 0 ≤ 601024; omega, by show ns + 6 + 0 ≤ 7292999; omega⟩ rfl ⟨0, 7, _, _, _, zk_M0, rfl⟩ (Nat.le_of_ble_eq_true rfl) rfl dL_law_843 rfl rfl h (fun x128 T127 h => ?_)
      refine zr_il C 5 dL_law_846 rfl rfl ?_
      refine zr_icmp_eq (tgt := 853) C dL_law_848 (by decide) rfl h (fun h => ?_) (fun h => ?_)
      · refine zr_il C 5 dL_law_853 rfl rfl ?_
        refine zz_jn1_W h (fun (u129 : Unit) => zz_ww X (nc + 1, ns + 6) (zz_wL a b ob k z T127) 870 [(0, .ref (sb)), (1, .ref (a 0)), (2, .ref (b 0)), (3, .ref (ob)), (4, .int i)] []) ?_ ?_
        · intro u129 h
          refine zr_goto (tgt := 1080) C dL_law_870 (by decide) ?_
          refine zr_wide (n' := (nc + 2, ns + 12)) (by simp) (by simp) ?_
          exact hj3 T127 h
        intro j130 hj131 h
        refine zr_if_ne (tgt := 870) C dL_law_855 (by decide) rfl h (fun h => ?_) (fun h => ?_)
        · refine zr_sub [0, 1, 2, 3, 4] rfl ?_
          exact hj131 () h
        · refine zr_aln C 3 dL_law_858 rfl rfl rfl ?_
          refine zr_ic (v := (0 : Int32)) C dL_law_859 (by decide) rfl ?_
          refine zr_lald C 0 zk_L0 dL_law_860 rfl h (fun h => ?_)
          refine zr_il C 6 dL_law_861 rfl rfl ?_
          refine zr_i2l C dL_law_863 rfl ?_
          refine zr_lcmp C dL_law_864 rfl ?_
          refine zr_if_eq (tgt := 870) C dL_law_865 (by decide) rfl h (fun h => ?_) (fun h => ?_)
          · refine zr_sub [0, 1, 2, 3, 4] rfl ?_
            exact hj131 () h
          · refine zr_ic (v := (0 : Int32)) C dL_law_868 (by decide) rfl ?_
            exact hret ((0 : Int32)) T127 869 _ (nc + 1, ns + 6) (by show nc + 1 ≤ 601024; omega) (by show ns + 6 ≤ 7292999; omega) dL_law_869 h
      · refine zr_ic (v := (0 : Int32)) C dL_law_851 (by decide) rfl ?_
        exact hret ((0 : Int32)) T127 852 _ (nc + 1, ns + 6) (by show nc + 1 ≤ 601024; omega) (by show ns + 6 ≤ 7292999; omega) dL_law_852 h
    rw [if_neg hc120] at h
    by_cases hc132 : (xs i.toNatClampNeg) &&& ((15 : Int32)) = (11 : Int32)
    · rw [if_pos hc132] at h
      refine zr_tabIn (v := (11 : Int32)) (tgt := 873) C dL_law_81 hc132 (by decide) (by decide) rfl (by decide) ?_
      refine zr_aln C 1 dL_law_873 rfl rfl rfl ?_
      refine zr_aln C 0 dL_law_874 rfl rfl rfl ?_
      refine zr_il C 4 dL_law_875 rfl rfl ?_
      refine zr_ic (v := (1 : Int32)) C dL_law_877 (by decide) rfl ?_
      refine zr_iadd C dL_law_878 rfl ?_
      refine zr_sld C SX dL_law_879 rfl h (fun h => ?_)
      refine zr_aln C 3 dL_law_880 rfl rfl rfl ?_
      refine zr_fSH (n' := (nc + 1, ns + 6)) (w' := zz_wL a b ob k z) (wr := zz_wM b k T.2.1) (wf := zz_wH a ob k z) (S := (T.1, T.2.2)) (st := []) (zz_upH T) C TX zz_pH (fun u => zz_pH' u) rfl (fun l D v u hl hu => zc_L_joined N l D k (a := a) (ob := ob) (z := z) T.1 T.2.2 (xs (i + ((1 : Int32))).toNatClampNeg) v u hl hu) gL_law_L_joined rfl zd_L_joined ⟨by decide, by decide⟩ ⟨by show nc + 0 + 1 ≤ 601024; omega, by show ns + 0 + 6 ≤ 7292999; omega⟩ rfl (Nat.le_of_ble_eq_true rfl) rfl dL_law_881 rfl rfl h (fun x134 T133 h => ?_)
      refine zr_is C [1, 2, 3, 4, 5, 0] dL_law_884 rfl (by decide) (fun x135 => [(0, .ref (sb)), (1, .ref (a 0)), (2, .ref (b 0)), (3, .ref (ob)), (4, .int i), (5, .int x135)]) h (fun _ => rfl) (fun x135 h => ?_)
      refine zr_aln C 2 dL_law_886 rfl rfl rfl ?_
      refine zr_aln C 0 dL_law_887 rfl rfl rfl ?_
      refine zr_il C 4 dL_law_888 rfl rfl ?_
      refine zr_ic (v := (1 : Int32)) C dL_law_890 (by decide) rfl ?_
      refine zr_iadd C dL_law_891 rfl ?_
      refine zr_sld C SX dL_law_892 rfl h (fun h => ?_)
      refine zr_fVi (n' := (nc + 1, ns + 6)) (w' := zz_wL a b ob k z) (wr := ([(ob, .inl (k 1, 1, .inr (.inl T133.2.2)))] ++ zz_wC a k z T133.1)) (wf := zz_wM b k) (S := T133.2.1) (st := []) (zz_upM T133) C zz_pM (fun u => zz_pM' u) rfl (fun l D v u hu => zc_X7_joined N l D k (a := b) T133.2.1 (xs (i + ((1 : Int32))).toNatClampNeg) v u hu) gL_law_X7_joined rfl zd_X7_joined ⟨by decide, by decide⟩ ⟨by show nc + 1 + 0 ≤ 601024; omega, by show ns + 6 + 0 ≤ 7292999; omega⟩ rfl ⟨0, 7, _, _, _, zk_M0, rfl⟩ (Nat.le_of_ble_eq_true rfl) rfl dL_law_893 rfl rfl h (fun x137 T136 h => ?_)
      refine zr_is C [1, 2, 3, 4, 5, 6, 0] dL_law_896 rfl (by decide) (fun x138 => [(0, .ref (sb)), (1, .ref (a 0)), (2, .ref (b 0)), (3, .ref (ob)), (4, .int i), (5, .int x135), (6, .int x138)]) h (fun _ => rfl) (fun x138 h => ?_)
      refine zr_aln C 2 dL_law_898 rfl rfl rfl ?_
      refine zr_fVi (n' := (nc + 1, ns + 6)) (w' := zz_wL a b ob k z) (wr := ([(ob, .inl (k 1, 1, .inr (.inl T136.2.2)))] ++ zz_wC a k z T136.1)) (wf := zz_wM b k) (S := T136.2.1) (st := []) (zz_upM T136) C zz_pM (fun u => zz_pM' u) rfl (fun l D v u hu => zz_ro2_MI hu (fun v hv => zc_X7_thrown N l D k (a := b) T136.2.1  v hv)) gL_law_X7_thrown rfl zd_X7_thrown ⟨by decide, by decide⟩ ⟨by show nc + 1 + 0 ≤ 601024; omega, by show ns + 6 + 0 ≤ 7292999; omega⟩ rfl ⟨0, 7, _, _, _, zk_M0, rfl⟩ (Nat.le_of_ble_eq_true rfl) rfl dL_law_899 rfl rfl h (fun x140 T139 h => ?_)
      refine zr_il C 5 dL_law_902 rfl rfl ?_
      refine zr_icmp_eq (tgt := 909) C dL_law_904 (by decide) rfl h (fun h => ?_) (fun h => ?_)
      · refine zr_il C 5 dL_law_909 rfl rfl ?_
        refine zz_jn1_W h (fun (u141 : Unit) => zz_ww X (nc + 1, ns + 6) (zz_wL a b ob k z T139) 933 [(0, .ref (sb)), (1, .ref (a 0)), (2, .ref (b 0)), (3, .ref (ob)), (4, .int i)] []) ?_ ?_
        · intro u141 h
          refine zr_goto (tgt := 1080) C dL_law_933 (by decide) ?_
          refine zr_wide (n' := (nc + 2, ns + 12)) (by simp) (by simp) ?_
          exact hj3 T139 h
        intro j142 hj143 h
        refine zr_if_ne (tgt := 933) C dL_law_911 (by decide) rfl h (fun h => ?_) (fun h => ?_)
        · refine zr_sub [0, 1, 2, 3, 4] rfl ?_
          exact hj143 () h
        · refine zr_aln C 3 dL_law_914 rfl rfl rfl ?_
          refine zr_ic (v := (0 : Int32)) C dL_law_915 (by decide) rfl ?_
          refine zr_lald C 0 zk_L0 dL_law_916 rfl h (fun h => ?_)
          refine zr_il C 6 dL_law_917 rfl rfl ?_
          refine zz_jn1_W h (fun (v144 : Int64) => zz_ww X (nc + 1, ns + 6) (zz_wL a b ob k z T139) 927 [(0, .ref (sb)), (1, .ref (a 0)), (2, .ref (b 0)), (3, .ref (ob)), (4, .int i)] [.long v144, .long (T139.2.2 ((0 : Int32)).toNatClampNeg)]) ?_ ?_
          · intro v144 h
            refine zr_lcmp C dL_law_927 rfl ?_
            refine zr_if_eq (tgt := 933) C dL_law_928 (by decide) rfl h (fun h => ?_) (fun h => ?_)
            · exact hj143 () h
            · refine zr_ic (v := (0 : Int32)) C dL_law_931 (by decide) rfl ?_
              exact hret ((0 : Int32)) T139 932 _ (nc + 1, ns + 6) (by show nc + 1 ≤ 601024; omega) (by show ns + 6 ≤ 7292999; omega) dL_law_932 h
          intro j145 hj146 h
          refine zr_if_eq (tgt := 926) C dL_law_919 (by decide) rfl h (fun h => ?_) (fun h => ?_)
          · refine zr_lc (v := 0) C dL_law_926 (by decide) rfl ?_
            refine zr_sub [0, 1, 2, 3, 4] rfl ?_
            exact hj146 ((0 : Int64)) h
          · refine zr_lc (v := 1) C dL_law_922 (by decide) rfl ?_
            refine zr_goto (tgt := 927) C dL_law_923 (by decide) ?_
            refine zr_sub [0, 1, 2, 3, 4] rfl ?_
            exact hj146 ((1 : Int64)) h
      · refine zr_ic (v := (0 : Int32)) C dL_law_907 (by decide) rfl ?_
        exact hret ((0 : Int32)) T139 908 _ (nc + 1, ns + 6) (by show nc + 1 ≤ 601024; omega) (by show ns + 6 ≤ 7292999; omega) dL_law_908 h
    rw [if_neg hc132] at h
    by_cases hc147 : (xs i.toNatClampNeg) &&& ((15 : Int32)) = (12 : Int32)
    · rw [if_pos hc147] at h
      refine zr_tabIn (v := (12 : Int32)) (tgt := 936) C dL_law_81 hc147 (by decide) (by decide) rfl (by decide) ?_
      refine zr_aln C 1 dL_law_936 rfl rfl rfl ?_
      refine zr_aln C 0 dL_law_937 rfl rfl rfl ?_
      refine zr_il C 4 dL_law_938 rfl rfl ?_
      refine zr_ic (v := (1 : Int32)) C dL_law_940 (by decide) rfl ?_
      refine zr_iadd C dL_law_941 rfl ?_
      refine zr_sld C SX dL_law_942 rfl h (fun h => ?_)
      refine zr_aln C 0 dL_law_943 rfl rfl rfl ?_
      refine zr_il C 4 dL_law_944 rfl rfl ?_
      refine zr_ic (v := (2 : Int32)) C dL_law_946 (by decide) rfl ?_
      refine zr_iadd C dL_law_947 rfl ?_
      refine zr_sld C SX dL_law_948 rfl h (fun h => ?_)
      refine zr_aln C 3 dL_law_949 rfl rfl rfl ?_
      refine zr_fSH (n' := (nc + 1, ns + 6)) (w' := zz_wL a b ob k z) (wr := zz_wM b k T.2.1) (wf := zz_wH a ob k z) (S := (T.1, T.2.2)) (st := []) (zz_upH T) C TX zz_pH (fun u => zz_pH' u) rfl (fun l D v u hl hu => zc_L_corridor N l D k (a := a) (ob := ob) (z := z) T.1 T.2.2 (xs (i + ((1 : Int32))).toNatClampNeg) (xs (i + ((2 : Int32))).toNatClampNeg) v u hl hu) gL_law_L_corridor rfl zd_L_corridor ⟨by decide, by decide⟩ ⟨by show nc + 0 + 1 ≤ 601024; omega, by show ns + 0 + 6 ≤ 7292999; omega⟩ rfl (Nat.le_of_ble_eq_true rfl) rfl dL_law_950 rfl rfl h (fun x149 T148 h => ?_)
      refine zr_is C [1, 2, 3, 4, 5, 0] dL_law_953 rfl (by decide) (fun x150 => [(0, .ref (sb)), (1, .ref (a 0)), (2, .ref (b 0)), (3, .ref (ob)), (4, .int i), (5, .int x150)]) h (fun _ => rfl) (fun x150 h => ?_)
      refine zr_aln C 2 dL_law_955 rfl rfl rfl ?_
      refine zr_aln C 0 dL_law_956 rfl rfl rfl ?_
      refine zr_il C 4 dL_law_957 rfl rfl ?_
      refine zr_ic (v := (1 : Int32)) C dL_law_959 (by decide) rfl ?_
      refine zr_iadd C dL_law_960 rfl ?_
      refine zr_sld C SX dL_law_961 rfl h (fun h => ?_)
      refine zr_aln C 0 dL_law_962 rfl rfl rfl ?_
      refine zr_il C 4 dL_law_963 rfl rfl ?_
      refine zr_ic (v := (2 : Int32)) C dL_law_965 (by decide) rfl ?_
      refine zr_iadd C dL_law_966 rfl ?_
      refine zr_sld C SX dL_law_967 rfl h (fun h => ?_)
      refine zr_fVi (n' := (nc + 1, ns + 6)) (w' := zz_wL a b ob k z) (wr := ([(ob, .inl (k 1, 1, .inr (.inl T148.2.2)))] ++ zz_wC a k z T148.1)) (wf := zz_wM b k) (S := T148.2.1) (st := []) (zz_upM T148) C zz_pM (fun u => zz_pM' u) rfl (fun l D v u hu => zc_X7_corridor N l D k (a := b) T148.2.1 (xs (i + ((1 : Int32))).toNatClampNeg) (xs (i + ((2 : Int32))).toNatClampNeg) v u hu) gL_law_X7_corridor rfl zd_X7_corridor ⟨by decide, by decide⟩ ⟨by show nc + 1 + 0 ≤ 601024; omega, by show ns + 6 + 0 ≤ 7292999; omega⟩ rfl ⟨0, 7, _, _, _, zk_M0, rfl⟩ (Nat.le_of_ble_eq_true rfl) rfl dL_law_968 rfl rfl h (fun x152 T151 h => ?_)
      refine zr_is C [1, 2, 3, 4, 5, 6, 0] dL_law_971 rfl (by decide) (fun x153 => [(0, .ref (sb)), (1, .ref (a 0)), (2, .ref (b 0)), (3, .ref (ob)), (4, .int i), (5, .int x150), (6, .int x153)]) h (fun _ => rfl) (fun x153 h => ?_)
      refine zr_aln C 2 dL_law_973 rfl rfl rfl ?_
      refine zr_fVi (n' := (nc + 1, ns + 6)) (w' := zz_wL a b ob k z) (wr := ([(ob, .inl (k 1, 1, .inr (.inl T151.2.2)))] ++ zz_wC a k z T151.1)) (wf := zz_wM b k) (S := T151.2.1) (st := []) (zz_upM T151) C zz_pM (fun u => zz_pM' u) rfl (fun l D v u hu => zz_ro2_MI hu (fun v hv => zc_X7_thrown N l D k (a := b) T151.2.1  v hv)) gL_law_X7_thrown rfl zd_X7_thrown ⟨by decide, by decide⟩ ⟨by show nc + 1 + 0 ≤ 601024; omega, by show ns + 6 + 0 ≤ 7292999; omega⟩ rfl ⟨0, 7, _, _, _, zk_M0, rfl⟩ (Nat.le_of_ble_eq_true rfl) rfl dL_law_974 rfl rfl h (fun x155 T154 h => ?_)
      refine zr_il C 5 dL_law_977 rfl rfl ?_
      refine zr_icmp_eq (tgt := 984) C dL_law_979 (by decide) rfl h (fun h => ?_) (fun h => ?_)
      · refine zr_il C 5 dL_law_984 rfl rfl ?_
        refine zz_jn1_W h (fun (u156 : Unit) => zz_ww X (nc + 1, ns + 6) (zz_wL a b ob k z T154) 1001 [(0, .ref (sb)), (1, .ref (a 0)), (2, .ref (b 0)), (3, .ref (ob)), (4, .int i)] []) ?_ ?_
        · intro u156 h
          refine zr_goto (tgt := 1080) C dL_law_1001 (by decide) ?_
          refine zr_wide (n' := (nc + 2, ns + 12)) (by simp) (by simp) ?_
          exact hj3 T154 h
        intro j157 hj158 h
        refine zr_if_ne (tgt := 1001) C dL_law_986 (by decide) rfl h (fun h => ?_) (fun h => ?_)
        · refine zr_sub [0, 1, 2, 3, 4] rfl ?_
          exact hj158 () h
        · refine zr_aln C 3 dL_law_989 rfl rfl rfl ?_
          refine zr_ic (v := (0 : Int32)) C dL_law_990 (by decide) rfl ?_
          refine zr_lald C 0 zk_L0 dL_law_991 rfl h (fun h => ?_)
          refine zr_il C 6 dL_law_992 rfl rfl ?_
          refine zr_i2l C dL_law_994 rfl ?_
          refine zr_lcmp C dL_law_995 rfl ?_
          refine zr_if_eq (tgt := 1001) C dL_law_996 (by decide) rfl h (fun h => ?_) (fun h => ?_)
          · refine zr_sub [0, 1, 2, 3, 4] rfl ?_
            exact hj158 () h
          · refine zr_ic (v := (0 : Int32)) C dL_law_999 (by decide) rfl ?_
            exact hret ((0 : Int32)) T154 1000 _ (nc + 1, ns + 6) (by show nc + 1 ≤ 601024; omega) (by show ns + 6 ≤ 7292999; omega) dL_law_1000 h
      · refine zr_ic (v := (0 : Int32)) C dL_law_982 (by decide) rfl ?_
        exact hret ((0 : Int32)) T154 983 _ (nc + 1, ns + 6) (by show nc + 1 ≤ 601024; omega) (by show ns + 6 ≤ 7292999; omega) dL_law_983 h
    rw [if_neg hc147] at h
    by_cases hc159 : (xs i.toNatClampNeg) &&& ((15 : Int32)) = (13 : Int32)
    · rw [if_pos hc159] at h
      refine zr_tabIn (v := (13 : Int32)) (tgt := 1004) C dL_law_81 hc159 (by decide) (by decide) rfl (by decide) ?_
      refine zr_aln C 1 dL_law_1004 rfl rfl rfl ?_
      refine zr_fVi (n' := (nc, ns)) (w' := zz_wL a b ob k z) (wr := ([(ob, .inl (k 1, 1, .inr (.inl T.2.2)))] ++ zz_wM b k T.2.1)) (wf := zz_wC a k z) (S := T.1) (st := []) (zz_upC T) C zz_pC (fun u => zz_pC' u) rfl (fun l D v u hu => zz_ro2_MI hu (fun v hv => zc_X6_round N l D k (a := a) (z := z) T.1  v hv)) gL_law_X6_round rfl zd_X6_round ⟨by decide, by decide⟩ ⟨by show nc + 0 + 0 ≤ 601024; omega, by show ns + 0 + 0 ≤ 7292999; omega⟩ rfl ⟨0, 6, _, _, _, zk_C0, rfl⟩ (Nat.le_of_ble_eq_true rfl) rfl dL_law_1005 rfl rfl h (fun x161 T160 h => ?_)
      refine zr_aln C 2 dL_law_1008 rfl rfl rfl ?_
      refine zr_fVi (n' := (nc, ns)) (w' := zz_wL a b ob k z) (wr := ([(ob, .inl (k 1, 1, .inr (.inl T160.2.2)))] ++ zz_wC a k z T160.1)) (wf := zz_wM b k) (S := T160.2.1) (st := [.int x161]) (zz_upM T160) C zz_pM (fun u => zz_pM' u) rfl (fun l D v u hu => zc_X7_round N l D k (a := b) T160.2.1  v u hu) gL_law_X7_round rfl zd_X7_round ⟨by decide, by decide⟩ ⟨by show nc + 0 + 0 ≤ 601024; omega, by show ns + 0 + 0 ≤ 7292999; omega⟩ rfl ⟨0, 7, _, _, _, zk_M0, rfl⟩ (Nat.le_of_ble_eq_true rfl) rfl dL_law_1009 rfl rfl h (fun x163 T162 h => ?_)
      refine zr_icmp_eq (tgt := 1080) C dL_law_1012 (by decide) rfl h (fun h => ?_) (fun h => ?_)
      · refine zr_wide (n' := (nc + 2, ns + 12)) (by simp) (by simp) ?_
        exact hj3 T162 h
      · refine zr_ic (v := (0 : Int32)) C dL_law_1015 (by decide) rfl ?_
        exact hret ((0 : Int32)) T162 1016 _ (nc, ns) (by show nc + 0 ≤ 601024; omega) (by show ns + 0 ≤ 7292999; omega) dL_law_1016 h
    rw [if_neg hc159] at h
    by_cases hc164 : (xs i.toNatClampNeg) &&& ((15 : Int32)) = (14 : Int32)
    · rw [if_pos hc164] at h
      refine zr_tabIn (v := (14 : Int32)) (tgt := 1017) C dL_law_81 hc164 (by decide) (by decide) rfl (by decide) ?_
      refine zr_aln C 1 dL_law_1017 rfl rfl rfl ?_
      refine zr_aln C 0 dL_law_1018 rfl rfl rfl ?_
      refine zr_il C 4 dL_law_1019 rfl rfl ?_
      refine zr_ic (v := (1 : Int32)) C dL_law_1021 (by decide) rfl ?_
      refine zr_iadd C dL_law_1022 rfl ?_
      refine zr_sld C SX dL_law_1023 rfl h (fun h => ?_)
      refine zr_aln C 3 dL_law_1024 rfl rfl rfl ?_
      refine zr_fSH (n' := (nc + 1, ns + 6)) (w' := zz_wL a b ob k z) (wr := zz_wM b k T.2.1) (wf := zz_wH a ob k z) (S := (T.1, T.2.2)) (st := []) (zz_upH T) C TX zz_pH (fun u => zz_pH' u) rfl (fun l D v u hl hu => zc_L_band N l D k (a := a) (ob := ob) (z := z) T.1 T.2.2 (xs (i + ((1 : Int32))).toNatClampNeg) v u hl hu) gL_law_L_band rfl zd_L_band ⟨by decide, by decide⟩ ⟨by show nc + 0 + 1 ≤ 601024; omega, by show ns + 0 + 6 ≤ 7292999; omega⟩ rfl (Nat.le_of_ble_eq_true rfl) rfl dL_law_1025 rfl rfl h (fun x166 T165 h => ?_)
      refine zr_is C [1, 2, 3, 4, 5, 0] dL_law_1028 rfl (by decide) (fun x167 => [(0, .ref (sb)), (1, .ref (a 0)), (2, .ref (b 0)), (3, .ref (ob)), (4, .int i), (5, .int x167)]) h (fun _ => rfl) (fun x167 h => ?_)
      refine zr_aln C 2 dL_law_1030 rfl rfl rfl ?_
      refine zr_aln C 0 dL_law_1031 rfl rfl rfl ?_
      refine zr_il C 4 dL_law_1032 rfl rfl ?_
      refine zr_ic (v := (1 : Int32)) C dL_law_1034 (by decide) rfl ?_
      refine zr_iadd C dL_law_1035 rfl ?_
      refine zr_sld C SX dL_law_1036 rfl h (fun h => ?_)
      refine zr_fVi (n' := (nc + 1, ns + 6)) (w' := zz_wL a b ob k z) (wr := ([(ob, .inl (k 1, 1, .inr (.inl T165.2.2)))] ++ zz_wC a k z T165.1)) (wf := zz_wM b k) (S := T165.2.1) (st := []) (zz_upM T165) C zz_pM (fun u => zz_pM' u) rfl (fun l D v u hu => zc_X7_band N l D k (a := b) T165.2.1 (xs (i + ((1 : Int32))).toNatClampNeg) v u hu) gL_law_X7_band rfl zd_X7_band ⟨by decide, by decide⟩ ⟨by show nc + 1 + 0 ≤ 601024; omega, by show ns + 6 + 0 ≤ 7292999; omega⟩ rfl ⟨0, 7, _, _, _, zk_M0, rfl⟩ (Nat.le_of_ble_eq_true rfl) rfl dL_law_1037 rfl rfl h (fun x169 T168 h => ?_)
      refine zr_is C [1, 2, 3, 4, 5, 6, 0] dL_law_1040 rfl (by decide) (fun x170 => [(0, .ref (sb)), (1, .ref (a 0)), (2, .ref (b 0)), (3, .ref (ob)), (4, .int i), (5, .int x167), (6, .int x170)]) h (fun _ => rfl) (fun x170 h => ?_)
      refine zr_aln C 2 dL_law_1042 rfl rfl rfl ?_
      refine zr_fVi (n' := (nc + 1, ns + 6)) (w' := zz_wL a b ob k z) (wr := ([(ob, .inl (k 1, 1, .inr (.inl T168.2.2)))] ++ zz_wC a k z T168.1)) (wf := zz_wM b k) (S := T168.2.1) (st := []) (zz_upM T168) C zz_pM (fun u => zz_pM' u) rfl (fun l D v u hu => zz_ro2_MI hu (fun v hv => zc_X7_thrown N l D k (a := b) T168.2.1  v hv)) gL_law_X7_thrown rfl zd_X7_thrown ⟨by decide, by decide⟩ ⟨by show nc + 1 + 0 ≤ 601024; omega, by show ns + 6 + 0 ≤ 7292999; omega⟩ rfl ⟨0, 7, _, _, _, zk_M0, rfl⟩ (Nat.le_of_ble_eq_true rfl) rfl dL_law_1043 rfl rfl h (fun x172 T171 h => ?_)
      refine zr_il C 5 dL_law_1046 rfl rfl ?_
      refine zr_icmp_eq (tgt := 1053) C dL_law_1048 (by decide) rfl h (fun h => ?_) (fun h => ?_)
      · refine zr_il C 5 dL_law_1053 rfl rfl ?_
        refine zz_jn1_W h (fun (u173 : Unit) => zz_ww X (nc + 1, ns + 6) (zz_wL a b ob k z T171) 1077 [(0, .ref (sb)), (1, .ref (a 0)), (2, .ref (b 0)), (3, .ref (ob)), (4, .int i)] []) ?_ ?_
        · intro u173 h
          refine zr_goto (tgt := 1080) C dL_law_1077 (by decide) ?_
          refine zr_wide (n' := (nc + 2, ns + 12)) (by simp) (by simp) ?_
          exact hj3 T171 h
        intro j174 hj175 h
        refine zr_if_ne (tgt := 1077) C dL_law_1055 (by decide) rfl h (fun h => ?_) (fun h => ?_)
        · refine zr_sub [0, 1, 2, 3, 4] rfl ?_
          exact hj175 () h
        · refine zr_aln C 3 dL_law_1058 rfl rfl rfl ?_
          refine zr_ic (v := (0 : Int32)) C dL_law_1059 (by decide) rfl ?_
          refine zr_lald C 0 zk_L0 dL_law_1060 rfl h (fun h => ?_)
          refine zr_il C 6 dL_law_1061 rfl rfl ?_
          refine zz_jn1_W h (fun (v176 : Int64) => zz_ww X (nc + 1, ns + 6) (zz_wL a b ob k z T171) 1071 [(0, .ref (sb)), (1, .ref (a 0)), (2, .ref (b 0)), (3, .ref (ob)), (4, .int i)] [.long v176, .long (T171.2.2 ((0 : Int32)).toNatClampNeg)]) ?_ ?_
          · intro v176 h
            refine zr_lcmp C dL_law_1071 rfl ?_
            refine zr_if_eq (tgt := 1077) C dL_law_1072 (by decide) rfl h (fun h => ?_) (fun h => ?_)
            · exact hj175 () h
            · refine zr_ic (v := (0 : Int32)) C dL_law_1075 (by decide) rfl ?_
              exact hret ((0 : Int32)) T171 1076 _ (nc + 1, ns + 6) (by show nc + 1 ≤ 601024; omega) (by show ns + 6 ≤ 7292999; omega) dL_law_1076 h
          intro j177 hj178 h
          refine zr_if_eq (tgt := 1070) C dL_law_1063 (by decide) rfl h (fun h => ?_) (fun h => ?_)
          · refine zr_lc (v := 0) C dL_law_1070 (by decide) rfl ?_
            refine zr_sub [0, 1, 2, 3, 4] rfl ?_
            exact hj178 ((0 : Int64)) h
          · refine zr_lc (v := 1) C dL_law_1066 (by decide) rfl ?_
            refine zr_goto (tgt := 1071) C dL_law_1067 (by decide) ?_
            refine zr_sub [0, 1, 2, 3, 4] rfl ?_
            exact hj178 ((1 : Int64)) h
      · refine zr_ic (v := (0 : Int32)) C dL_law_1051 (by decide) rfl ?_
        exact hret ((0 : Int32)) T171 1052 _ (nc + 1, ns + 6) (by show nc + 1 ≤ 601024; omega) (by show ns + 6 ≤ 7292999; omega) dL_law_1052 h
    rw [if_neg hc164] at h
    have ho : ((xs i.toNatClampNeg) &&& ((15 : Int32))).toInt < 0 ∨ 14 < ((xs i.toNatClampNeg) &&& ((15 : Int32))).toInt := by
      have q0 := lv_neT hc5 (show ((0 : Int32)).toInt = 0 by decide)
      have q1 := lv_neT hc20 (show ((1 : Int32)).toInt = 1 by decide)
      have q2 := lv_neT hc25 (show ((2 : Int32)).toInt = 2 by decide)
      have q3 := lv_neT hc40 (show ((3 : Int32)).toInt = 3 by decide)
      have q4 := lv_neT hc55 (show ((4 : Int32)).toInt = 4 by decide)
      have q5 := lv_neT hc67 (show ((5 : Int32)).toInt = 5 by decide)
      have q6 := lv_neT hc79 (show ((6 : Int32)).toInt = 6 by decide)
      have q7 := lv_neT hc91 (show ((7 : Int32)).toInt = 7 by decide)
      have q8 := lv_neT hc103 (show ((8 : Int32)).toInt = 8 by decide)
      have q9 := lv_neT hc115 (show ((9 : Int32)).toInt = 9 by decide)
      have q10 := lv_neT hc120 (show ((10 : Int32)).toInt = 10 by decide)
      have q11 := lv_neT hc132 (show ((11 : Int32)).toInt = 11 by decide)
      have q12 := lv_neT hc147 (show ((12 : Int32)).toInt = 12 by decide)
      have q13 := lv_neT hc159 (show ((13 : Int32)).toInt = 13 by decide)
      have q14 := lv_neT hc164 (show ((14 : Int32)).toInt = 14 by decide)
      omega
    refine zr_tabOut (tgt := 1080) C dL_law_81 ho (by decide) ?_
    refine zr_wide (n' := (nc + 2, ns + 12)) (by simp) (by simp) ?_
    exact hj3 T h

theorem pr_m_hasAll {M : zz_St} {N k pc : Nat} {pn : Nat → Nat} (hN : 2000 ≤ N) (hk : k < 12) (hpc : pc ≤ 5) (h1 : zz_ga M 1 k = nI pc) (h2 : ∀ p, p < pc → zz_ga M 2 (5 * k + p) = nI (pn p) ∧ pn p < 1024) :
    pz_T (zf_X7_hasAll N M (nI k)) (fun v => (v = 1 ∧ ∀ p, p < pc → zz_ga M 17 (pn p) ≠ 0) ∨ (v = 0 ∧ ∃ p, p < pc ∧ zz_ga M 17 (pn p) = 0)) := by
  unfold zf_X7_hasAll
  rw [pz_T_let, pz_T_let, pz_5m]
  refine pz_for2r (e := 5 * k + pc) (fun m v => ∃ j, m = 5 * k + j ∧ j ≤ pc ∧ ((v = 1 ∧ ∀ p, p < j → zz_ga M 17 (pn p) ≠ 0) ∨ (v = 0 ∧ ∃ p, p < pc ∧ zz_ga M 17 (pn p) = 0))) ?_ N (5 * k) _ (by omega) ⟨0, by omega, by omega, Or.inl ⟨rfl, fun p hp => by omega⟩⟩ (by omega)
  rintro rc m v hm ⟨j, rfl, hj, hv⟩ hrc
  simp only [pz_T_ite, pz_T_gd, pz_T_jn1, pz_T_jn2, pz_T_some, pz_T_let, pz_T_b1, pz_T_b2]
  simp (disch := omega) only [pz_in, nI_clampI, h1, nI_add, pz_leI, nI_1]
  refine ⟨hk, fun hge => ?_, fun hlt => ?_⟩
  · have : j = pc := by omega
    subst this
    refine ⟨?_, hv⟩
    rcases hv with ⟨rfl, -⟩ | ⟨rfl, -⟩
    · exact pz_bl1
    · exact pz_bl0
  · have hjp : j < pc := by omega
    obtain ⟨a1, a2⟩ := h2 j hjp
    rw [a1]
    simp (disch := omega) only [pz_in, nI_clampI]
    refine ⟨fun h0 => hrc (by omega) _ ⟨j + 1, by omega, by omega, Or.inr ⟨rfl, ?_⟩⟩, fun h0 => ⟨by omega, by omega, fun h3 => hrc (by omega) _ ⟨j + 1, by omega, by omega, Or.inr ⟨rfl, j, hjp, h3⟩⟩, fun h3 => hrc (by omega) _ ⟨j + 1, by omega, by omega, Or.inl ⟨rfl, ?_⟩⟩⟩⟩
    · rcases hv with ⟨h, -⟩ | ⟨-, h⟩
      · rw [h] at h0; exact absurd h0 (by decide)
      · exact h
    · rcases hv with ⟨-, h⟩ | ⟨h, -⟩
      · intro p hp
        by_cases e1 : p = j
        · subst e1; exact h3
        · exact h p (by omega)
      · exact absurd h h0
def pr_Fc (N z : Nat) (p1 : Int32) : (Int32 → zz_St → Option zz_St) → Int32 → zz_St → Option zz_St := fun rc8 (v6 : Int32) (S7 : zz_St) => if (zz_ga S7 21 p1.toNatClampNeg) ≤ v6 then (zz_let (zz_sa S7 22 (upd (zz_ga S7 22) p1.toNatClampNeg ((1 : Int32)))) (fun S10 => zz_b1 (zf_X5_holdFor N z S10 p1) (fun S11 => some S11))) else (zz_b2 (zf_X4_reachesPin N z S7 p1 ((0 : Int32))) (fun x13 S12 => zz_jn1 (fun (S14 : zz_St) => zz_b1 (zf_X4_nearestPin N z S14 p1.toNatClampNeg) (fun x17 => zz_let x17 (fun x18 => zz_jn1 (fun (S19 : zz_St) => zz_let (v6 + (1 : Int32)) (fun x22 => rc8 x22 S19)) (fun j20 => if x18 = ((-1 : Int32)) then (j20 S14) else (zz_gd (zz_in x18 z) (zz_let (zz_sA S14 21 (vp_updL (zz_gA S14 21) p1.toNatClampNeg ((zz_gA S14 21 p1.toNatClampNeg) + (zz_gA S14 17 x18.toNatClampNeg)))) (fun S23 => zz_b2 (zf_X6_joinFrom N z S23 x18 p1) (fun x25 S24 => zz_b1 (zf_X6_ripUp N z S24 x25) (fun S26 => j20 S26))))))))) (fun j15 => if x13 = 0 then (zz_b1 (zf_X4_holdersAround N z S12 p1) (fun x27 => zz_let x27 (fun x28 => zz_b2 (zf_X4_reachesPin N z S12 p1 ((1 : Int32))) (fun x30 S29 => if x30 = 0 then (zz_let (zz_sa S29 23 (upd (zz_ga S29 23) p1.toNatClampNeg x28)) (fun S31 => some S31)) else (j15 S29))))) else (j15 S12))))
def pr_Fm (N : Nat) (p1 : Int32) : (zz_St → Option zz_St) → zz_St → Option zz_St := fun rc11 (S10 : zz_St) => zz_b1 (zf_X7_hasAll N S10 p1) (fun x13 => if x13 = 0 then (zz_b1 (zf_X7_search N S10 p1 ((0 : Int32))) (fun S15 => zz_b1 (zf_X7_nextPin N S15 p1) (fun x16 => zz_let x16 (fun x17 => zz_jn1 (fun (v18 : Int32) => zz_let v18 (fun x21 => zz_jn2 (fun (v22 : Int32) (S23 : zz_St) => zz_b1 (zf_X7_join N S23 p1 v22 x21) (fun S26 => rc11 S26)) (fun j24 => if x21 = 0 then (j24 x17 S15) else (zz_b1 (zf_X7_findBlocks N S15 p1) (fun S27 => zz_b1 (zf_X7_search N S27 p1 ((1 : Int32))) (fun S28 => zz_b1 (zf_X7_nextPin N S28 p1) (fun x29 => zz_let x29 (fun x30 => if x30 = ((-1 : Int32)) then (zz_b1 (zf_X7_loosen N S28 p1) (fun S32 => some S32)) else (zz_gd (zz_in p1 12) (zz_let (zz_sa S28 15 (upd (zz_ga S28 15) p1.toNatClampNeg ((0 : Int32)))) (fun S31 => j24 x30 S31))))))))))) (fun j19 => if x17 = ((-1 : Int32)) then (j19 ((1 : Int32))) else (j19 ((0 : Int32)))))))) else (zz_gd (zz_in p1 12) (zz_let (zz_sa S10 10 (upd (zz_ga S10 10) p1.toNatClampNeg (vp_nar .boolean ((1 : Int32))))) (fun S14 => some S14))))
theorem pr_lead_c {N z : Nat} {S : zz_St} {p1 : Int32} : zf_X6_lead N z S p1 = zz_gd (zz_in p1 12) (zz_let (zz_sA S 21 (vp_updL (zz_gA S 21) p1.toNatClampNeg ((0 : Int64)))) (fun S2 => zz_let (zz_sa S2 23 (upd (zz_ga S2 23) p1.toNatClampNeg ((0 : Int32)))) (fun S3 => zz_gd (zz_in ((0 : Int32)) 5) (zz_b1 (zf_X5_startAt N z S3 (zz_gp S3 p1.toNatClampNeg ((0 : Int32)).toNatClampNeg)) (fun S4 => zz_let ((1 : Int32)) (fun x5 => zz_fix2 (pr_Fc N z p1) N x5 S4)))))) := rfl
theorem pr_lead_m {N : Nat} {S : zz_St} {p1 : Int32} : zf_X7_lead N S p1 = zz_gd (zz_in p1 12) (zz_let (zz_sa S 15 (upd (zz_ga S 15) p1.toNatClampNeg ((0 : Int32)))) (fun S1 => zz_gd (zz_in p1 12) (zz_let (zz_sA S1 13 (vp_updL (zz_gA S1 13) p1.toNatClampNeg ((0 : Int64)))) (fun S2 => zz_gd (zz_in p1 12) (zz_let (zz_sa S2 11 (upd (zz_ga S2 11) p1.toNatClampNeg ((0 : Int32)))) (fun S3 => zz_let ((0 : Int32)) (fun x4 => zz_fix2 (fun rc7 (v5 : Int32) (S6 : zz_St) => if ((1024 : Int32)) ≤ v5 then (zz_gd (zz_in (((5 : Int32)) * p1) 60) (zz_b1 (zf_X7_comes N S6 p1 (zz_ga S6 2 (((5 : Int32)) * p1).toNatClampNeg)) (fun S9 => zz_fix1 (pr_Fm N p1) N S9))) else (zz_gd (zz_in v5 1024) (zz_let (zz_sa S6 17 (upd (zz_ga S6 17) v5.toNatClampNeg (vp_nar .boolean ((0 : Int32))))) (fun S33 => zz_let (v5 + (1 : Int32)) (fun x34 => rc7 x34 S33))))) N x4 S3))))))) := rfl
theorem pr_e_cs {S : zz_St} {k : Nat} {n : Int32} {d t : Nat → Int64} {h s : Nat → Int32} : pr_e k (pz_cs S n d t h s) = pr_e k S := by
  unfold pr_e
  simp (disch := decide) only [pz_cs_ga, pz_cs_gA]
theorem pr_R_cs {W H D nn q : Nat} {pc : Nat → Nat} {pn : Nat → Nat → Nat} {k : Nat} {T : Nat → Prop} {S M : zz_St} (hR : pr_R W H D nn q pc pn k T S M) {n : Int32} {d t : Nat → Int64} {h s : Nat → Int32} : pr_R W H D nn q pc pn k T (pz_cs S n d t h s) M :=
  pr_R_c hR (fun i hi => pz_cs_gi (by omega)) pz_cs_gl (fun r hr => pz_cs_ga (by omega) (by omega)) (pz_cs_gA (by decide) (by decide)) (pz_cs_gA (by decide) (by decide)) (fun n => pz_cs_gp)
theorem pr_t_cs {z k ts : Nat} {tr : Nat → Nat} {S M : zz_St} (ht : pr_t z k ts tr S M) {n : Int32} {d t : Nat → Int64} {h s : Nat → Int32} : pr_t z k ts tr (pz_cs S n d t h s) M := by
  unfold pr_t pz_tree at *
  simp (disch := decide) only [pz_cs_gi, pz_cs_ga]
  exact ht
theorem pr_R_sA {W H D nn q : Nat} {pc : Nat → Nat} {pn : Nat → Nat → Nat} {k : Nat} {T : Nat → Prop} {S M : zz_St} (hR : pr_R W H D nn q pc pn k T S M) {r : Nat → Int64} : pr_R W H D nn q pc pn k T S (zz_sA M 16 r) :=
  pr_R_m hR (fun _ _ => rfl) rfl (fun _ _ _ => rfl) (pz_gA_sA_n (by decide)) (pz_gA_sA_n (by decide))
theorem pr_t_sA {z k ts : Nat} {tr : Nat → Nat} {S M : zz_St} (ht : pr_t z k ts tr S M) {r : Nat → Int64} : pr_t z k ts tr S (zz_sA M 16 r) := ht
/-- the join in both, then on -/
theorem pr_go {W H D nn q : Nat} {pc : Nat → Nat} {pn : Nat → Nat → Nat} {k ts N i : Nat} {tr : Nat → Nat} {S M : zz_St} {rip : Bool} {d d' : Nat → Option Nat} {P : zz_St → zz_St → Prop} {rc : Int32 → zz_St → Option zz_St} {rm : zz_St → Option zz_St} {x ds : Nat}
    (hR : pr_R W H D nn q pc pn k (pz_Tt ts tr) S M) (ht : pr_t (W * H * D) k ts tr S M) (hk : k < nn) (hq : q ≤ 1000000000) (hN : 2000 ≤ N)
    (hrow : pz_row (W * H * D) (zz_gA S 17) d) (hrb : pz_rb (W * H * D) d) (hok : pz_ok (pz_E W H D (pr_e k S) rip) (pz_Tt ts tr) d) (htl : pz_tolls (W * H * D) (pr_e k S) rip (zz_gA S 18) (pz_tl W H D (pr_e k S) rip))
    (hx : x < (W * H * D)) (hox : zz_ga S 10 x = nI k) (hds : 0 < ds) (hdx : d x = some ds) (hex : ∀ c u, u ≤ ds → (d c = some u ↔ pz_mn (pz_E W H D (pr_e k S) rip) (pz_Tt ts tr) c u)) (hown : ∀ c u, c < (W * H * D) → zz_ga S 10 c = nI k → d c = some u → u = 0 ∨ ds ≤ u)
    (hrow' : pz_row (W * H * D) (zz_gA M 16) d') (hrb' : pz_rb (W * H * D) d') (hex' : ∀ c u, d' c = some u ↔ pz_mn (pz_E W H D (pr_e k S) rip) (pz_Tt ts tr) c u)
    (hpm : pr_pm (pc k) (pn k) ts tr = i)
    (hrec : ∀ ts' tr' S' M', pr_R W H D nn (q + 1) pc pn k (pz_Tt ts' tr') S' M' → pr_t (W * H * D) k ts' tr' S' M' → pr_pm (pc k) (pn k) ts' tr' = i + 1 → zz_ga S' 7 = zz_ga S 7 → (zz_ga M' 18 = zz_ga M 18 ∧ zz_gi M' 0 = zz_gi M 0) → pz_T (rc (nI (i + 1)) S') (fun r => pz_T (rm M') (P r))) :
    ∃ x0, x0 < (W * H * D) ∧ zf_X4_nearestPin N (W * H * D) S k = some (nI x0) ∧ zf_X7_nextPin N M (nI k) = some (nI x0) ∧
      pz_T (zf_X6_joinFrom N (W * H * D) (zz_sA S 21 (vp_updL (zz_gA S 21) k (zz_gA S 21 k + zz_gA S 17 x0))) (nI x0) (nI k)) (fun p => pz_T (zf_X6_ripUp N (W * H * D) p.2 p.1) (fun S' => pz_T (rc (nI (i + 1)) S') (fun r => pz_T (zf_X7_join N M (nI k) (nI x0) (pz_b rip)) (fun M' => pz_T (rm M') (P r))))) := by
  obtain ⟨x0, h0, h1, h2, h3⟩ := pr_step hR ht hk hq hN hrow hrb hok htl hx hox hds hdx hex hown hrow' hrb' hex'
  refine ⟨x0, h0, h1, h2, pz_T_mono h3 (fun p hp => pz_T_mono hp (fun S' hS => ?_))⟩
  refine pz_T_swap (pz_T_mono hS ?_)
  rintro M' ⟨ts', tr', r1, r2, r3, r4, r5⟩
  exact hrec ts' tr' S' M' r1 r2 (by omega) r4 r5
theorem pr_ex_eq {E : Nat → Nat → Nat → Prop} {T : Nat → Prop} {d d' : Nat → Option Nat} (h : ∀ c u, d c = some u ↔ pz_mn E T c u) (h' : ∀ c u, d' c = some u ↔ pz_mn E T c u) : d' = d := by
  funext c
  cases hd : d c with
  | some u => exact (h' c u).mpr ((h c u).mp hd)
  | none =>
    cases hd' : d' c with
    | none => rfl
    | some u =>
      have := (h c u).mpr ((h' c u).mp hd')
      rw [hd] at this
      cases this
theorem pr_bst_none {d : Nat → Option Nat} {pn : Nat → Nat} {pc : Nat} (h : ∀ q u, q < pc → d (pn q) = some u → u = 0) : pz_bst d pn pc = none := by
  rcases pz_bst_inv d pn pc with ⟨h1, -⟩ | ⟨p0, v, hp0, -, hv, hv0, -⟩
  · exact h1
  · have := h p0 v hp0 hv; omega
/-- one turn of the two loops -/
theorem pr_loop {W H D nn q : Nat} {pc : Nat → Nat} {pn : Nat → Nat → Nat} {k N : Nat} {o7 o18 : Nat → Int32} {o0 : Int32} (hk : k < nn) (hq : q + 10 ≤ 1000000000) (hN : 2000 ≤ N) {i ts : Nat} {tr : Nat → Nat} {S M : zz_St} (hi : 1 ≤ i) (hipc : i ≤ pc k) (hpc5 : pc k ≤ 5)
    (hR : pr_R W H D nn (q + i) pc pn k (pz_Tt ts tr) S M) (ht : pr_t (W * H * D) k ts tr S M) (hpm : pr_pm (pc k) (pn k) ts tr = i) (h7 : zz_ga S 7 = o7) (h18 : zz_ga M 18 = o18 ∧ zz_gi M 0 = o0) :
    pz_T (zz_fix2 (pr_Fc N (W * H * D) (nI k)) N (nI i) S) (fun S' => pz_T (zz_fix1 (pr_Fm N (nI k)) N M) (fun M' => pr_R W H D nn (q + 5) pc pn k (fun _ => False) S' M' ∧ zz_ga S' 7 = o7 ∧ zz_ga M' 18 = o18 ∧ zz_gi M' 0 = o0)) := by
  refine pz_fix21 (fun m v S M => ∃ i ts tr, v = nI i ∧ pc k - i = m ∧ 1 ≤ i ∧ i ≤ pc k ∧ pr_R W H D nn (q + i) pc pn k (pz_Tt ts tr) S M ∧ pr_t (W * H * D) k ts tr S M ∧ pr_pm (pc k) (pn k) ts tr = i ∧ zz_ga S 7 = o7 ∧ zz_ga M 18 = o18 ∧ zz_gi M 0 = o0) ?_ N N (pc k - i) _ _ _ ⟨i, ts, tr, rfl, rfl, hi, hipc, hR, ht, hpm, h7, h18⟩ (by omega) (by omega)
  clear hi hipc hR ht hpm h7 h18 i ts tr S M
  rintro rc rm m _ S M ⟨i, ts, tr, rfl, rfl, hi, hipc, hR, ht, hpm, h7, h18⟩ hrec
  have hR0 := hR
  have ht0 := ht
  obtain ⟨hs, hA, hB, hC, hD, hE, hF, hG⟩ := hR
  obtain ⟨t1, t2, t3, t4, t5, t6, t7⟩ := ht
  have hz := hs.2.2.2.2.1
  have hnn := hA.2.2.1
  have hk12 : k < 12 := by omega
  have hd := hD k hk12
  have hpin := (hE k hk12).1
  have he := pr_ev hR0 (by omega) k
  have hcv := pr_cenv hR0 (by omega) k
  have hmv := pr_menv hR0 (by omega)
  have hTr : ∀ M2, zz_ga M2 17 = zz_ga M 17 → pz_Tr (W * H * D) (zz_ga M2 17) = pz_Tt ts tr := by
    intro M2 h
    rw [h]
    funext c
    apply propext
    constructor
    · rintro ⟨h1, h2⟩
      by_cases hT : pz_Tt ts tr c
      · exact hT
      · exact absurd ((t4 c h1).mpr hT) h2
    · intro hT
      have hc : c < (W * H * D) := by
        obtain ⟨j, hj, rfl⟩ := hT
        exact (t1.2.2 j hj).2
      exact ⟨hc, fun h0 => (t4 c hc).mp h0 hT⟩
  have hAll : pz_T (zf_X7_hasAll N M (nI k)) (fun v => (v = 1 ∧ ∀ p, p < pc k → pz_Tt ts tr (pn k p)) ∨ (v = 0 ∧ ∃ p, p < pc k ∧ ¬ pz_Tt ts tr (pn k p))) := by
    refine pz_T_mono (pr_m_hasAll (pn := pn k) hN hk12 hd.1.1 hd.1.2.2 (fun p hp => ⟨(hpin p hp).2.1, by have := (hpin p hp).2.2.1; omega⟩)) ?_
    rintro v (⟨h1, h2⟩ | ⟨h1, p, hp, h2⟩)
    · refine Or.inl ⟨h1, fun p hp => ?_⟩
      by_cases hT : pz_Tt ts tr (pn k p)
      · exact hT
      · exact absurd ((t4 _ (hpin p hp).2.2.1).mpr hT) (h2 p hp)
    · exact Or.inr ⟨h1, p, hp, (t4 _ (hpin p hp).2.2.1).mp h2⟩
  have hcard1 : (∀ p, p < pc k → pz_Tt ts tr (pn k p)) → i = pc k := by
    intro h
    rw [← hpm]
    unfold pr_pm
    rw [pz_cnt_congr (Q := fun _ => true) (fun p hp => pr_Tt_memb.mpr (h p hp))]
    have : ∀ n, pz_cnt (fun _ => true) n = n := by
      intro n
      induction n with
      | zero => rfl
      | succ n ih => simp [pz_cnt, ih]
    exact this _
  have hcard2 : (∃ p, p < pc k ∧ ¬ pz_Tt ts tr (pn k p)) → i < pc k := by
    rintro ⟨p, hp, h⟩
    rw [← hpm]
    unfold pr_pm
    refine pz_cnt_lt_n hp ?_
    cases hb : pz_memb tr ts (pn k p)
    · rfl
    · exact absurd (pr_Tt_memb.mp hb) h
  by_cases hend : pc k ≤ i
  · -- led
    have hMl : ∀ {β : Type} {Q : zz_St → Prop}, Q (zz_sa M 10 (upd (zz_ga M 10) k 1)) → pz_T (pr_Fm N (nI k) rm M) Q := by
      intro _ Q hQ
      unfold pr_Fm
      simp only [pz_T_b1]
      refine pz_T_mono hAll ?_
      rintro v (⟨rfl, h⟩ | ⟨rfl, h⟩)
      · rw [pz_T_ite]
        refine ⟨fun h => absurd h (by decide), fun _ => ?_⟩
        simp only [pz_T_ite, pz_T_gd, pz_T_jn1, pz_T_jn2, pz_T_some, pz_T_let, pz_T_b1, pz_T_b2]
        simp (disch := omega) only [pz_in, nI_clampI, pz_nar1]
        exact ⟨hk12, hQ⟩
      · have := hcard2 h; omega
    have hpins : ∀ p, p < pc k → pz_Tt ts tr (pn k p) := by
      intro p hp
      by_cases hT : pz_Tt ts tr (pn k p)
      · exact hT
      · have := hcard2 ⟨p, hp, hT⟩; omega
    unfold pr_Fc
    simp only [pz_T_ite]
    simp (disch := omega) only [nI_clampI, hd.1.2.1, pz_leI]
    refine ⟨fun _ => ?_, fun h => absurd hend h⟩
    simp only [pz_T_ite, pz_T_gd, pz_T_jn1, pz_T_jn2, pz_T_some, pz_T_let, pz_T_b1, pz_T_b2]
    refine pz_T_mono (pr_end1 hR0 ht0 hk hN hpins) ?_
    rintro S' ⟨r1, r2⟩
    refine hMl (β := Unit) ⟨pr_R_q r1 (by omega), ?_, ?_⟩
    · rw [r2]; exact h7
    · exact ⟨by rw [pz_ga_sa_n (by decide)]; exact h18.1, h18.2⟩
  · -- on
    have hend' : i < pc k := by omega
    have hM15k : zz_ga M 15 k = 0 := by rw [hd.2.2.2.2.1]; exact t7
    have hEp : ∀ rip b c w, pz_E W H D (pr_e k S) rip b c w → 0 < w := fun rip b c w h => (pz_E_ok he h).2
    have hFm : ∀ {Q : zz_St → Prop} {M15 : zz_St} {y : Int32}, zf_X7_search N M (nI k) 0 = some M15 → zf_X7_nextPin N M15 (nI k) = some y → ((y ≠ -1 ∧ pz_T (zf_X7_join N M15 (nI k) y 0) (fun S26 => pz_T (rm S26) Q)) ∨ (y = -1 ∧ ∃ M27 M28 y2, zf_X7_findBlocks N M15 (nI k) = some M27 ∧ zf_X7_search N M27 (nI k) 1 = some M28 ∧ zf_X7_nextPin N M28 (nI k) = some y2 ∧ ((y2 = -1 ∧ pz_T (zf_X7_loosen N M28 (nI k)) Q) ∨ (y2 ≠ -1 ∧ pz_T (zf_X7_join N (zz_sa M28 15 (upd (zz_ga M28 15) k 0)) (nI k) y2 1) (fun S26 => pz_T (rm S26) Q))))) → pz_T (pr_Fm N (nI k) rm M) Q := by
      intro Q M15 y e1 e2 hQ
      unfold pr_Fm
      simp only [pz_T_b1]
      refine pz_T_mono hAll ?_
      rintro v (⟨rfl, h⟩ | ⟨rfl, h⟩)
      · have := hcard1 h; omega
      · simp only [pz_T_ite, pz_T_gd, pz_T_jn1, pz_T_jn2, pz_T_some, pz_T_let, pz_T_b1, pz_T_b2]
        refine ⟨fun _ => ?_, fun h => absurd trivial h⟩
        rw [pz_T_eq e1, pz_T_eq e2]
        rcases hQ with ⟨hy, hQ⟩ | ⟨hy, M27, M28, y2, e3, e4, e5, hQ⟩
        · exact ⟨fun h => absurd h hy, fun _ => ⟨fun _ => hQ, fun h => absurd trivial h⟩⟩
        · refine ⟨fun _ => ⟨fun h => absurd h (by decide), fun _ => ?_⟩, fun h => absurd hy h⟩
          rw [pz_T_eq e3, pz_T_eq e4, pz_T_eq e5]
          rcases hQ with ⟨hy2, hQ⟩ | ⟨hy2, hQ⟩
          · exact ⟨fun _ => hQ, fun h => absurd hy2 h⟩
          · refine ⟨fun h => absurd h hy2, fun _ => ⟨(pz_in (by omega)).mpr hk12, ?_⟩⟩
            rw [nI_clampI (by omega)]
            exact hQ
    -- the class's free search, the reference's
    obtain ⟨⟨v1, S12⟩, hc1, n1, r1, tl1, h1, s1, d1, hS12, hrow1, hrb1, hok1, htl1, hres1⟩ := pz_c_reach he hcv (N := N) hN t1 false
    dsimp only at hS12 hres1
    subst hS12
    have hRc := pr_R_cs hR0 (n := n1) (d := r1) (t := tl1) (h := h1) (s := s1)
    have htc := pr_t_cs ht0 (n := n1) (d := r1) (t := tl1) (h := h1) (s := s1)
    have hecs : pr_e k (pz_cs S n1 r1 tl1 h1 s1) = pr_e k S := pr_e_cs
    have hg10 : zz_ga (pz_cs S n1 r1 tl1 h1 s1) 10 = zz_ga S 10 := pz_cs_ga (by decide) (by decide)
    obtain ⟨_, hm1, ry, dy, rfl, hrowy, hrby, hexy⟩ := pz_m_search he hmv (N := N) hN false
    rw [hTr M rfl] at hexy
    have hc1' : zf_X4_reachesPin N (W * H * D) S (nI k) 0 = some (v1, pz_cs S n1 r1 tl1 h1 s1) := hc1
    have hm1' : zf_X7_search N M (nI k) 0 = some (zz_sA M 16 ry) := hm1
    rcases hres1 with ⟨hv1, hexA, hownA⟩ | ⟨hv1, x, ds, hx, hox, hds, hdx, hexA, hownA⟩
    · -- no free way
      subst hv1
      have hdd : dy = d1 := pr_ex_eq hexA hexy
      subst hdd
      have hcv1 : pz_cenv W H D (pr_e k S) (nI k) (pz_cs S n1 r1 tl1 h1 s1) := pz_cenv_cs hcv n1 r1 tl1 h1 s1
      have hhS : ∀ c, c < (W * H * D) → pe_fg (pr_e k S) c = true → ∃ o, o < 32 ∧ zz_ga S 10 c = nI o := by
        intro c hc hf
        obtain ⟨-, -, o, ho, h⟩ := pr_fgT hR0 hc hf
        exact ⟨o, by omega, h⟩
      have hhM : ∀ c, c < (W * H * D) → pe_fg (pr_e k S) c = true → ∃ o, o < 32 ∧ zz_ga M 3 c = nI o := by
        intro c hc hf
        rw [(pr_fgT hR0 hc hf).2.1]
        exact hhS c hc hf
      obtain ⟨xb, hc2, hxb⟩ := pz_c_around hs hcv1 (N := N) hN (by rw [pz_cs_gA17]; exact hrow1) hrb1 (by rw [hg10]; exact hhS)
      rw [hg10] at hxb
      obtain ⟨⟨v2, S29⟩, hc3, n2, r2, tl2, h2, s2, d2, hS29, hrow2, hrb2, hok2, htl2, hres2⟩ := pz_c_reach he hcv1 (N := N) hN htc.1 true
      dsimp only at hS29 hres2
      subst hS29
      have hc3' : zf_X4_reachesPin N (W * H * D) (pz_cs S n1 r1 tl1 h1 s1) (nI k) 1 = some (v2, pz_cs (pz_cs S n1 r1 tl1 h1 s1) n2 r2 tl2 h2 s2) := hc3
      have hRc2 := pr_R_cs hRc (n := n2) (d := r2) (t := tl2) (h := h2) (s := s2)
      have htc2 := pr_t_cs htc (n := n2) (d := r2) (t := tl2) (h := h2) (s := s2)
      have hecs2 : pr_e k (pz_cs (pz_cs S n1 r1 tl1 h1 s1) n2 r2 tl2 h2 s2) = pr_e k S := by rw [pr_e_cs, pr_e_cs]
      have hg10' : zz_ga (pz_cs (pz_cs S n1 r1 tl1 h1 s1) n2 r2 tl2 h2 s2) 10 = zz_ga S 10 := by rw [pz_cs_ga (by decide) (by decide), hg10]
      have h17y : ∀ c, c < (W * H * D) → (zz_ga (zz_sA M 16 ry) 17 c = 0 ↔ dy c ≠ some 0) := by
        intro c hc
        rw [pz_ga_sA, t4 c hc, Ne, hexy c 0, pr_mn0 (hEp false)]
      have hm2 : zf_X7_nextPin N (zz_sA M 16 ry) (nI k) = some (-1) := by
        rw [pz_m_next (M := zz_sA M 16 ry) (d := dy) (pn := pn k) (pc := pc k) hz (by omega) hk12 hd.1.1 hd.1.2.2 (fun p hp => ⟨(hpin p hp).2.1, (hpin p hp).2.2.1⟩) (by rw [pz_gA_sA]; exact hrowy) hrby h17y, pr_bst_none (fun p u hp hu => hownA _ u (hpin p hp).2.2.1 (hpin p hp).2.2.2.2 hu)]
        rfl
      obtain ⟨_, hm3, y, rfl, hy⟩ := pz_m_blocks (M := zz_sA M 16 ry) (d := dy) hs hk12 (pz_menv_sA hmv ry) (N := N) hN (by rw [pz_gA_sA]; exact hrowy) hrby hhM
      have hyx : y = xb := by
        apply b_ext
        intro j hj
        have hb : bt y j = true ↔ bt xb j = true := by
          rw [hy j hj, hxb j hj]
          constructor
          · rintro ⟨c, n, hc, hn, hs', a, ha1, ha2, ha3⟩
            refine ⟨c, n, hc, hn, hs', a, ha1, ha2, ?_⟩
            have hac := pz_nb_lt hs.1 hs.2.1 hc ha1
            rw [pz_ga_sA, (pr_fgT hR0 hac ha2).2.1] at ha3
            exact ha3
          · rintro ⟨c, n, hc, hn, hs', a, ha1, ha2, ha3⟩
            refine ⟨c, n, hc, hn, hs', a, ha1, ha2, ?_⟩
            have hac := pz_nb_lt hs.1 hs.2.1 hc ha1
            rw [pz_ga_sA, (pr_fgT hR0 hac ha2).2.1]
            exact ha3
        cases ha : bt y j <;> cases hb2 : bt xb j <;> simp [ha, hb2] at hb ⊢
      subst hyx
      rw [pz_ga_sA] at hm3
      obtain ⟨_, hm4, rr, dd, rfl, hrowr, hrbr, hexr⟩ := pz_m_search he (pz_menv_sa15 (pz_menv_sA hmv ry) (upd (zz_ga M 15) k y)) (N := N) hN true
      rw [hTr _ (by rw [pz_ga_sa_n (by decide), pz_ga_sA])] at hexr
      have hm4' : zf_X7_search N (zz_sa (zz_sA M 16 ry) 15 (upd (zz_ga M 15) k y)) (nI k) 1 = some (zz_sA (zz_sa (zz_sA M 16 ry) 15 (upd (zz_ga M 15) k y)) 16 rr) := hm4
      rcases hres2 with ⟨hv2, hexB, hownB⟩ | ⟨hv2, x, ds, hx, hox, hds, hdx, hexB, hownB⟩
      · -- it stays open
        subst hv2
        have hdd2 : dd = d2 := pr_ex_eq hexB hexr
        subst hdd2
        have h17r : ∀ c, c < (W * H * D) → (zz_ga (zz_sA (zz_sa (zz_sA M 16 ry) 15 (upd (zz_ga M 15) k y)) 16 rr) 17 c = 0 ↔ dd c ≠ some 0) := by
          intro c hc
          rw [pz_ga_sA, pz_ga_sa_n (by decide), pz_ga_sA, t4 c hc, Ne, hexr c 0, pr_mn0 (hEp true)]
        have hm5 : zf_X7_nextPin N (zz_sA (zz_sa (zz_sA M 16 ry) 15 (upd (zz_ga M 15) k y)) 16 rr) (nI k) = some (-1) := by
          rw [pz_m_next (d := dd) (pn := pn k) (pc := pc k) hz (by omega) hk12 hd.1.1 (by rw [pz_ga_sA, pz_ga_sa_n (by decide), pz_ga_sA]; exact hd.1.2.2) (fun p hp => ⟨by rw [pz_ga_sA, pz_ga_sa_n (by decide), pz_ga_sA]; exact (hpin p hp).2.1, (hpin p hp).2.2.1⟩) (by rw [pz_gA_sA]; exact hrowr) hrbr h17r, pr_bst_none (fun p u hp hu => hownB _ u (hpin p hp).2.2.1 (by rw [hg10]; exact (hpin p hp).2.2.2.2) hu)]
          rfl
        unfold pr_Fc
        simp only [pz_T_ite, pz_T_gd, pz_T_jn1, pz_T_jn2, pz_T_some, pz_T_let, pz_T_b1, pz_T_b2]
        simp (disch := omega) only [nI_clampI, hd.1.2.1, pz_leI]
        refine ⟨fun h => absurd h hend, fun _ => ?_⟩
        rw [pz_T_eq hc1']
        refine ⟨fun _ => ?_, fun h => absurd rfl h⟩
        rw [pz_T_eq hc2, pz_T_eq hc3']
        refine ⟨fun _ => ?_, fun h => absurd rfl h⟩
        refine hFm hm1' hm2 (Or.inr ⟨rfl, _, _, _, hm3, hm4', hm5, Or.inl ⟨rfl, ?_⟩⟩)
        refine pz_T_mono (pz_m_loosen (by omega) hk12) ?_
        rintro _ ⟨f, rfl, hf⟩
        refine ⟨?_, ?_, ?_⟩
        · refine pr_R_q (pr_end0 (M := M) (f := f) (x := y) hRc2 htc2 hk ?_ ?_ ?_ ?_ ?_ ?_ ?_ ?_) (by omega)
          · intro j hj hb
            obtain ⟨c, n, hc, hn, -, a, ha1, ha2, ha3⟩ := (hxb j hj).mp hb
            have hac := pz_nb_lt hs.1 hs.2.1 hc ha1
            obtain ⟨-, -, o, ho, hao⟩ := pr_fgT hR0 hac ha2
            rw [ha3, pz_eqI (by omega) (by omega)] at hao
            omega
          · intro i; rfl
          · rfl
          · intro r hr
            rw [pz_ga_sA, pz_ga_sa_n hr, pz_ga_sA]
          · simp (disch := omega) only [pz_gi_si, pz_gi_si_n, pz_gi_sl, pz_gi_sa, pz_gi_sA, pz_gi_sp, pz_gl_si, pz_gl_sl, pz_gl_sl_n, pz_gl_sa, pz_gl_sA, pz_gl_sp, pz_ga_si, pz_ga_sl, pz_ga_sa, pz_ga_sa_n, pz_ga_sA, pz_ga_sp, pz_gA_si, pz_gA_sl, pz_gA_sa, pz_gA_sA, pz_gA_sA_n, pz_gA_sp, pz_gp_si, pz_gp_sl, pz_gp_sa, pz_gp_sA, pz_gp_sp, pz_gp_sp_n]
          · simp (disch := omega) only [pz_gi_si, pz_gi_si_n, pz_gi_sl, pz_gi_sa, pz_gi_sA, pz_gi_sp, pz_gl_si, pz_gl_sl, pz_gl_sl_n, pz_gl_sa, pz_gl_sA, pz_gl_sp, pz_ga_si, pz_ga_sl, pz_ga_sa, pz_ga_sa_n, pz_ga_sA, pz_ga_sp, pz_gA_si, pz_gA_sl, pz_gA_sa, pz_gA_sA, pz_gA_sA_n, pz_gA_sp, pz_gp_si, pz_gp_sl, pz_gp_sa, pz_gp_sA, pz_gp_sp, pz_gp_sp_n]
          · rw [pz_ga_sA, pz_ga_sa]
          · intro c hc
            rw [hf c hc]
            simp (disch := omega) only [pz_gi_si, pz_gi_si_n, pz_gi_sl, pz_gi_sa, pz_gi_sA, pz_gi_sp, pz_gl_si, pz_gl_sl, pz_gl_sl_n, pz_gl_sa, pz_gl_sA, pz_gl_sp, pz_ga_si, pz_ga_sl, pz_ga_sa, pz_ga_sa_n, pz_ga_sA, pz_ga_sp, pz_gA_si, pz_gA_sl, pz_gA_sa, pz_gA_sA, pz_gA_sA_n, pz_gA_sp, pz_gp_si, pz_gp_sl, pz_gp_sa, pz_gp_sA, pz_gp_sp, pz_gp_sp_n]
        · simp (disch := omega) only [pz_gi_si, pz_gi_si_n, pz_gi_sl, pz_gi_sa, pz_gi_sA, pz_gi_sp, pz_gl_si, pz_gl_sl, pz_gl_sl_n, pz_gl_sa, pz_gl_sA, pz_gl_sp, pz_ga_si, pz_ga_sl, pz_ga_sa, pz_ga_sa_n, pz_ga_sA, pz_ga_sp, pz_gA_si, pz_gA_sl, pz_gA_sa, pz_gA_sA, pz_gA_sA_n, pz_gA_sp, pz_gp_si, pz_gp_sl, pz_gp_sa, pz_gp_sA, pz_gp_sp, pz_gp_sp_n, pz_cs_ga]
          exact h7
        · refine ⟨?_, h18.2⟩
          simp (disch := omega) only [pz_gi_si, pz_gi_si_n, pz_gi_sl, pz_gi_sa, pz_gi_sA, pz_gi_sp, pz_gl_si, pz_gl_sl, pz_gl_sl_n, pz_gl_sa, pz_gl_sA, pz_gl_sp, pz_ga_si, pz_ga_sl, pz_ga_sa, pz_ga_sa_n, pz_ga_sA, pz_ga_sp, pz_gA_si, pz_gA_sl, pz_gA_sa, pz_gA_sA, pz_gA_sA_n, pz_gA_sp, pz_gp_si, pz_gp_sl, pz_gp_sa, pz_gp_sA, pz_gp_sp, pz_gp_sp_n]
          exact h18.1
      · -- over others
        subst hv2
        have h15 : upd (zz_ga (zz_sA (zz_sa (zz_sA M 16 ry) 15 (upd (zz_ga M 15) k y)) 16 rr) 15) k 0 = zz_ga M 15 := by
          rw [pz_ga_sA, pz_ga_sa, pz_upd2]
          funext j
          by_cases e1 : j = k
          · subst e1; rw [pk_us, hM15k]
          · rw [pk_un e1]
        have hRm : pr_R W H D nn (q + i) pc pn k (pz_Tt ts tr) (pz_cs (pz_cs S n1 r1 tl1 h1 s1) n2 r2 tl2 h2 s2) (zz_sa (zz_sA (zz_sa (zz_sA M 16 ry) 15 (upd (zz_ga M 15) k y)) 16 rr) 15 (zz_ga M 15)) := by
          refine pr_R_m hRc2 (fun _ _ => rfl) rfl ?_ ?_ ?_
          · intro r h1 h2
            by_cases e1 : r = 15
            · subst e1; rw [pz_ga_sa]
            · simp (disch := omega) only [pz_gi_si, pz_gi_si_n, pz_gi_sl, pz_gi_sa, pz_gi_sA, pz_gi_sp, pz_gl_si, pz_gl_sl, pz_gl_sl_n, pz_gl_sa, pz_gl_sA, pz_gl_sp, pz_ga_si, pz_ga_sl, pz_ga_sa, pz_ga_sa_n, pz_ga_sA, pz_ga_sp, pz_gA_si, pz_gA_sl, pz_gA_sa, pz_gA_sA, pz_gA_sA_n, pz_gA_sp, pz_gp_si, pz_gp_sl, pz_gp_sa, pz_gp_sA, pz_gp_sp, pz_gp_sp_n]
          · simp (disch := omega) only [pz_gi_si, pz_gi_si_n, pz_gi_sl, pz_gi_sa, pz_gi_sA, pz_gi_sp, pz_gl_si, pz_gl_sl, pz_gl_sl_n, pz_gl_sa, pz_gl_sA, pz_gl_sp, pz_ga_si, pz_ga_sl, pz_ga_sa, pz_ga_sa_n, pz_ga_sA, pz_ga_sp, pz_gA_si, pz_gA_sl, pz_gA_sa, pz_gA_sA, pz_gA_sA_n, pz_gA_sp, pz_gp_si, pz_gp_sl, pz_gp_sa, pz_gp_sA, pz_gp_sp, pz_gp_sp_n]
          · simp (disch := omega) only [pz_gi_si, pz_gi_si_n, pz_gi_sl, pz_gi_sa, pz_gi_sA, pz_gi_sp, pz_gl_si, pz_gl_sl, pz_gl_sl_n, pz_gl_sa, pz_gl_sA, pz_gl_sp, pz_ga_si, pz_ga_sl, pz_ga_sa, pz_ga_sa_n, pz_ga_sA, pz_ga_sp, pz_gA_si, pz_gA_sl, pz_gA_sa, pz_gA_sA, pz_gA_sA_n, pz_gA_sp, pz_gp_si, pz_gp_sl, pz_gp_sa, pz_gp_sA, pz_gp_sp, pz_gp_sp_n]
        have htm : pr_t (W * H * D) k ts tr (pz_cs (pz_cs S n1 r1 tl1 h1 s1) n2 r2 tl2 h2 s2) (zz_sa (zz_sA (zz_sa (zz_sA M 16 ry) 15 (upd (zz_ga M 15) k y)) 16 rr) 15 (zz_ga M 15)) := by
          unfold pr_t at htc2 ⊢
          simp (disch := omega) only [pz_gi_si, pz_gi_si_n, pz_gi_sl, pz_gi_sa, pz_gi_sA, pz_gi_sp, pz_gl_si, pz_gl_sl, pz_gl_sl_n, pz_gl_sa, pz_gl_sA, pz_gl_sp, pz_ga_si, pz_ga_sl, pz_ga_sa, pz_ga_sa_n, pz_ga_sA, pz_ga_sp, pz_gA_si, pz_gA_sl, pz_gA_sa, pz_gA_sA, pz_gA_sA_n, pz_gA_sp, pz_gp_si, pz_gp_sl, pz_gp_sa, pz_gp_sA, pz_gp_sp, pz_gp_sp_n]
          exact htc2
        obtain ⟨x0, q1, q2, q3, q4⟩ := pr_go (P := fun r M' => pr_R W H D nn (q + 5) pc pn k (fun _ => False) r M' ∧ zz_ga r 7 = o7 ∧ zz_ga M' 18 = o18 ∧ zz_gi M' 0 = o0) (rc := rc) (rm := rm) (q := q + i) (rip := true) (d := d2) (d' := dd) (x := x) (ds := ds) hRm htm hk (by omega) hN (by rw [pz_cs_gA17]; exact hrow2) hrb2 (by rw [hecs2]; exact hok2) (by rw [pz_cs_gA18, hecs2]; exact htl2) hx (by rw [hg10', ← hg10]; exact hox) hds hdx (by rw [hecs2]; exact hexB) (by rw [hg10', ← hg10]; exact hownB) (by rw [pz_gA_sa, pz_gA_sA]; exact hrowr) hrbr (by rw [hecs2]; exact hexr) hpm (by
          intro ts' tr' S' M' q1 q2 q3 q4 q5
          refine hrec (pc k - (i + 1)) _ _ _ (by omega) ⟨i + 1, ts', tr', rfl, rfl, by omega, by omega, q1, q2, q3, ?_, ?_⟩
          · rw [q4, pz_cs_ga (by decide) (by decide), pz_cs_ga (by decide) (by decide)]; exact h7
          · refine ⟨?_, ?_⟩
            · rw [q5.1]
              simp (disch := omega) only [pz_gi_si, pz_gi_si_n, pz_gi_sl, pz_gi_sa, pz_gi_sA, pz_gi_sp, pz_gl_si, pz_gl_sl, pz_gl_sl_n, pz_gl_sa, pz_gl_sA, pz_gl_sp, pz_ga_si, pz_ga_sl, pz_ga_sa, pz_ga_sa_n, pz_ga_sA, pz_ga_sp, pz_gA_si, pz_gA_sl, pz_gA_sa, pz_gA_sA, pz_gA_sA_n, pz_gA_sp, pz_gp_si, pz_gp_sl, pz_gp_sa, pz_gp_sA, pz_gp_sp, pz_gp_sp_n]
              exact h18.1
            · rw [q5.2]
              exact h18.2)
        have hm5 : zf_X7_nextPin N (zz_sA (zz_sa (zz_sA M 16 ry) 15 (upd (zz_ga M 15) k y)) 16 rr) (nI k) = some (nI x0) := by
          rw [← q3]
          unfold zf_X7_nextPin
          simp (disch := omega) only [pz_gi_si, pz_gi_si_n, pz_gi_sl, pz_gi_sa, pz_gi_sA, pz_gi_sp, pz_gl_si, pz_gl_sl, pz_gl_sl_n, pz_gl_sa, pz_gl_sA, pz_gl_sp, pz_ga_si, pz_ga_sl, pz_ga_sa, pz_ga_sa_n, pz_ga_sA, pz_ga_sp, pz_gA_si, pz_gA_sl, pz_gA_sa, pz_gA_sA, pz_gA_sA_n, pz_gA_sp, pz_gp_si, pz_gp_sl, pz_gp_sa, pz_gp_sA, pz_gp_sp, pz_gp_sp_n]
        unfold pr_Fc
        simp only [pz_T_ite, pz_T_gd, pz_T_jn1, pz_T_jn2, pz_T_some, pz_T_let, pz_T_b1, pz_T_b2]
        simp (disch := omega) only [nI_clampI, hd.1.2.1, pz_leI]
        refine ⟨fun h => absurd h hend, fun _ => ?_⟩
        rw [pz_T_eq hc1']
        refine ⟨fun _ => ?_, fun h => absurd rfl h⟩
        rw [pz_T_eq hc2, pz_T_eq hc3']
        refine ⟨fun h => absurd (show (1 : Int32) = 0 from h) (by decide), fun _ => ?_⟩
        rw [pz_T_eq q2]
        refine ⟨fun h => ?_, fun _ => ⟨(pz_in (by omega)).mpr q1, ?_⟩⟩
        · rw [pz_nm1 (by omega)] at h
          exact h.elim
        simp (disch := omega) only [nI_clampI, nI_1]
        refine pz_T_mono q4 (fun p hp => pz_T_mono hp (fun S' hS => pz_T_mono hS (fun r hr => ?_)))
        refine hFm hm1' hm2 (Or.inr ⟨rfl, _, _, _, hm3, hm4', hm5, Or.inr ⟨?_, ?_⟩⟩)
        · intro h
          rw [pz_nm1 (by omega)] at h
          exact h.elim
        · rw [h15]
          exact hr
    · -- a free way
      subst hv1
      have hRm := pr_R_sA hRc (r := ry)
      have htm := pr_t_sA htc (r := ry)
      obtain ⟨x0, q1, q2, q3, q4⟩ := pr_go (P := fun r M' => pr_R W H D nn (q + 5) pc pn k (fun _ => False) r M' ∧ zz_ga r 7 = o7 ∧ zz_ga M' 18 = o18 ∧ zz_gi M' 0 = o0) (rc := rc) (rm := rm) (q := q + i) (rip := false) (d := d1) (d' := dy) (x := x) (ds := ds) hRm htm hk (by omega) hN (by rw [pz_cs_gA17]; exact hrow1) hrb1 (by rw [hecs]; exact hok1) (by rw [pz_cs_gA18, hecs]; exact htl1) hx (by rw [hg10]; exact hox) hds hdx (by rw [hecs]; exact hexA) (by rw [hg10]; exact hownA) (by rw [pz_gA_sA]; exact hrowy) hrby (by rw [hecs]; exact hexy) hpm (by
        intro ts' tr' S' M' q1 q2 q3 q4 q5
        refine hrec (pc k - (i + 1)) _ _ _ (by omega) ⟨i + 1, ts', tr', rfl, rfl, by omega, by omega, q1, q2, q3, ?_, ?_⟩
        · rw [q4, pz_cs_ga (by decide) (by decide)]; exact h7
        · refine ⟨?_, ?_⟩
          · rw [q5.1]
            simp (disch := omega) only [pz_gi_si, pz_gi_si_n, pz_gi_sl, pz_gi_sa, pz_gi_sA, pz_gi_sp, pz_gl_si, pz_gl_sl, pz_gl_sl_n, pz_gl_sa, pz_gl_sA, pz_gl_sp, pz_ga_si, pz_ga_sl, pz_ga_sa, pz_ga_sa_n, pz_ga_sA, pz_ga_sp, pz_gA_si, pz_gA_sl, pz_gA_sa, pz_gA_sA, pz_gA_sA_n, pz_gA_sp, pz_gp_si, pz_gp_sl, pz_gp_sa, pz_gp_sA, pz_gp_sp, pz_gp_sp_n]
            exact h18.1
          · rw [q5.2]
            exact h18.2)
      unfold pr_Fc
      simp only [pz_T_ite, pz_T_gd, pz_T_jn1, pz_T_jn2, pz_T_some, pz_T_let, pz_T_b1, pz_T_b2]
      simp (disch := omega) only [nI_clampI, hd.1.2.1, pz_leI]
      refine ⟨fun h => absurd h hend, fun _ => ?_⟩
      rw [pz_T_eq hc1']
      refine ⟨fun h => absurd (show (1 : Int32) = 0 from h) (by decide), fun _ => ?_⟩
      rw [pz_T_eq q2]
      refine ⟨fun h => ?_, fun _ => ⟨(pz_in (by omega)).mpr q1, ?_⟩⟩
      · rw [pz_nm1 (by omega)] at h
        exact h.elim
      simp (disch := omega) only [nI_clampI, nI_1]
      refine pz_T_mono q4 (fun p hp => pz_T_mono hp (fun S' hS => pz_T_mono hS (fun r hr => ?_)))
      refine hFm hm1' q3 (Or.inl ⟨?_, hr⟩)
      intro h
      rw [pz_nm1 (by omega)] at h
      exact h.elim

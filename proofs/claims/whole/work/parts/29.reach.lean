def pz_dj (z : Nat) (E : Nat → Nat → Nat → Prop) (T own : Nat → Prop) (d B : Nat → Option Nat) : Prop := pz_ok E T d ∧ pz_rb z d ∧ (∀ c, c < z → (B c).isSome = true → (d c).isSome = true) ∧ (∀ b, b < z → pz_xp d B b = true → pz_rx E d d b) ∧
  (∀ b c u v, b < z → c < z → pz_xp d B b = true → d b = some u → (B c).isSome = true → d c = some v → u ≤ v) ∧ (∀ c u, c < z → pz_xp d B c = true → d c = some u → own c → u = 0)
/-- what a search leaves: exact up to the nearest own cell, or all -/
def pz_res (z : Nat) (E : Nat → Nat → Nat → Prop) (T own : Nat → Prop) (v : Int32) (d : Nat → Option Nat) : Prop :=
  (v = 0 ∧ (∀ c u, d c = some u ↔ pz_mn E T c u) ∧ ∀ c u, c < z → own c → d c = some u → u = 0) ∨
  (v = 1 ∧ ∃ x ds, x < z ∧ own x ∧ 0 < ds ∧ d x = some ds ∧ (∀ c u, u ≤ ds → (d c = some u ↔ pz_mn E T c u)) ∧ ∀ c u, c < z → own c → d c = some u → u = 0 ∨ ds ≤ u)
theorem pz_c_reach {W H D : Nat} {e : pz_Env} (he : pz_ev W H D e) {k : Int32} {S : zz_St} (hm : pz_cenv W H D e k S) {N ts : Nat} {tr : Nat → Nat} (hN : 2000 ≤ N) (ht : pz_tree (W * H * D) ts tr S) (rip : Bool) :
    pz_T (zf_X4_reachesPin N (W * H * D) S k (pz_b rip)) (fun p => ∃ n r t h s d, p.2 = pz_cs S n r t h s ∧ pz_row (W * H * D) r d ∧ pz_rb (W * H * D) d ∧ pz_ok (pz_E W H D e rip) (pz_Tt ts tr) d ∧ pz_tolls (W * H * D) e rip t (pz_tl W H D e rip) ∧ pz_res (W * H * D) (pz_E W H D e rip) (pz_Tt ts tr) (fun c => zz_ga S 10 c = k) p.1 d) := by
  have hs := he.1
  have hz := hs.2.2.2.2.1
  have hE : ∀ b c w, (pz_E W H D e rip) b c w → 0 < w := fun b c w h => (pz_E_ok he h).2
  have hEb : ∀ b c w, (pz_E W H D e rip) b c w → b < (W * H * D) := fun b c w h => h.1
  unfold zf_X4_reachesPin
  rw [pz_T_b1]
  rw [pz_cs_id (S := S)]
  refine pz_T_mono (pz_c_setTolls he hm hN rip) ?_
  rintro _ ⟨t, rfl, htoll⟩
  rw [pz_T_b1]
  refine pz_T_mono (pz_c_start hz hN ht) ?_
  rintro _ ⟨n0, r0, h0, s0, B0, d0, rfl, hrow0, hd0, hheap0, hB0⟩
  rw [pz_T_let, ← pz_cs_id (S := S)]
  refine pz_fixm2 (fun m v4 S5 => ∃ n r h s d B, (W * H * D) - pz_cnt (pz_xp d B) (W * H * D) = m ∧ v4 = nI (pz_cnt (pz_xp d B) (W * H * D)) ∧ S5 = pz_cs S (nI n) r t h s ∧ pz_row (W * H * D) r d ∧ pz_heap (W * H * D) n (pz_K d) B h s ∧ pz_dj (W * H * D) (pz_E W H D e rip) (pz_Tt ts tr) (fun c => zz_ga S 10 c = k) d B) ?_ N ((W * H * D) - pz_cnt (pz_xp d0 B0) (W * H * D)) _ _ ⟨n0, r0, h0, s0, d0, B0, rfl, ?_, rfl, hrow0, hheap0, ?_⟩ (by omega)
  · rintro rc m _ _ ⟨n, r, h, s, d, B, rfl, rfl, rfl, hrow, hheap, hdj⟩ hrc
    obtain ⟨hok, hrb, hin, hrx, hord, hown⟩ := hdj
    have hbd : ∀ j v, d j = some v → v ≤ 2048000000000 := fun j v h => pz_rb_le hz hrb h
    have hcle := pz_cnt_le (pz_xp d B) (W * H * D)
    have hnle : n ≤ (W * H * D) := by
      obtain ⟨A, hstr, -⟩ := hheap
      rw [hstr.2.2]; exact pz_cnt_le _ _
    have hfail : (∀ c, c < (W * H * D) → (B c).isSome = false) → (∃ n' r' t' h' s' d', pz_cs S (nI n) r t h s = pz_cs S n' r' t' h' s' ∧ pz_row (W * H * D) r' d' ∧ pz_rb (W * H * D) d' ∧ pz_ok (pz_E W H D e rip) (pz_Tt ts tr) d' ∧ pz_tolls (W * H * D) e rip t' (pz_tl W H D e rip) ∧ pz_res (W * H * D) (pz_E W H D e rip) (pz_Tt ts tr) (fun c => zz_ga S 10 c = k) 0 d') := by
      intro hemp
      refine ⟨_, r, t, h, s, d, rfl, hrow, hrb, hok, htoll, Or.inl ⟨rfl, ?_, ?_⟩⟩
      · apply pz_exact hok
        intro b c w a hE' hda
        have hb := hEb b c w hE'
        exact hrx b hb (pz_xp_t.mpr ⟨by rw [hda]; rfl, hemp b hb⟩) c w a hE' hda
      · intro c u hc ho hdu
        exact hown c u hc (pz_xp_t.mpr ⟨by rw [hdu]; rfl, hemp c hc⟩) hdu ho
    simp only [pz_T_jn1, pz_T_ite, pz_T_some]
    simp (disch := omega) only [pz_cs_gi8, pz_cs_gi, pz_cs_gl, pz_cs_ga19, pz_cs_ga20, pz_cs_ga, pz_cs_gA17, pz_cs_gA18, pz_cs_gA, pz_cs_gp, pz_cs_si8, pz_cs_sa19, pz_cs_sa20, pz_cs_sA17, pz_cs_sA18, hm.1.2.2.2.2, pz_leI, pz_c0c]
    refine ⟨fun hall => hfail ?_, fun hnall => ⟨fun hn0 => hfail ?_, fun hn0 => ?_⟩⟩
    · intro c hc
      cases hq : (B c).isSome
      · rfl
      · have := pz_cnt_lt_n (P := pz_xp d B) hc (by unfold pz_xp; rw [hq]; simp)
        omega
    · intro c hc
      cases hq : (B c).isSome
      · rfl
      · obtain ⟨A, hstr, -⟩ := hheap
        obtain ⟨i, hi⟩ := pz_some_of (d := B) hq
        have := (hstr.2.1 c i hc hi).1
        omega
    · rw [pz_T_b2]
      have hkey : pz_key (W * H * D) r (pz_K d) B := by
        intro c hc hq
        obtain ⟨v, hv⟩ := pz_some_of (hin c hc hq)
        have := hbd c v hv
        rw [hrow c hc]
        unfold pz_K
        rw [hv]
        exact ⟨rfl, by simp; omega⟩
      refine pz_T_mono (pz_c_take hz hN hheap (by omega) hkey) ?_
      rintro _ ⟨x, B', h', s', hx, hBx, hmin, rfl, hheap', hB'⟩
      obtain ⟨a, hda⟩ := pz_some_of (hin x hx hBx)
      have hab := hbd x a hda
      have hKx : pz_K d x = a := by unfold pz_K; rw [hda]; rfl
      have hge : ∀ c v, c < (W * H * D) → (B c).isSome = true → d c = some v → a ≤ v := by
        intro c v hc hq hv
        have := hmin c hc hq
        rw [hKx] at this
        unfold pz_K at this
        rw [hv] at this
        exact this
      simp only [pz_T_ite, pz_T_gd, pz_T_jn1, pz_T_jn2, pz_T_some, pz_T_let, pz_T_b1, pz_T_b2]
      simp (disch := omega) only [pz_cs_gi8, pz_cs_gi, pz_cs_gl, pz_cs_ga19, pz_cs_ga20, pz_cs_ga, pz_cs_gA17, pz_cs_gA18, pz_cs_gA, pz_cs_gp, pz_cs_si8, pz_cs_sa19, pz_cs_sa20, pz_cs_sA17, pz_cs_sA18, pz_in, nI_clampI, nI_1, pz_l_le, hrow x hx, hda, pz_lo_s, pz_lN_le0]
      have hgo : (zz_ga S 10 x = k → a = 0) → pz_T (zf_X4_spreadFrom N (W * H * D) (pz_cs S (nI (n - 1)) r t h' s') (nI x)) (fun v => pz_T (rc (nI (pz_cnt (pz_xp d B) (W * H * D) + 1)) v) (fun p => ∃ n r t h s d, p.2 = pz_cs S n r t h s ∧ pz_row (W * H * D) r d ∧ pz_rb (W * H * D) d ∧ pz_ok (pz_E W H D e rip) (pz_Tt ts tr) d ∧ pz_tolls (W * H * D) e rip t (pz_tl W H D e rip) ∧ pz_res (W * H * D) (pz_E W H D e rip) (pz_Tt ts tr) (fun c => zz_ga S 10 c = k) p.1 d)) := by
        intro how
        have hB'x : (B' x).isSome = false := by rw [hB' x hx]; simp
        have hxpx : pz_xp d B' x = true := pz_xp_t.mpr ⟨by rw [hda]; rfl, hB'x⟩
        have hxpn : ∀ c, c < (W * H * D) → c ≠ x → pz_xp d B' c = pz_xp d B c := by
          intro c hc hne
          unfold pz_xp
          rw [hB' c hc]
          simp [hne]
        have hcnt : pz_cnt (pz_xp d B') (W * H * D) = pz_cnt (pz_xp d B) (W * H * D) + 1 := pz_cnt_one hxpn hx (by unfold pz_xp; rw [hBx]; simp) hxpx
        have hsp : pz_sp (W * H * D) (pz_E W H D e rip) (pz_Tt ts tr) x a d B' := by
          refine ⟨hok, hrb, ?_, ?_, ?_, ?_, hda, hB'x⟩
          · intro c hc hq
            rw [hB' c hc] at hq
            simp at hq
            exact hin c hc hq.1
          · intro b hb hbx hq
            rw [hxpn b hb hbx] at hq
            exact hrx b hb hq
          · intro b u hb hq hu
            by_cases e1 : b = x
            · subst e1
              rw [hda] at hu
              cases hu
              exact Nat.le_refl _
            · rw [hxpn b hb e1] at hq
              exact hord b x u a hb hx hq hu hBx hda
          · intro c v hc hq hv
            rw [hB' c hc] at hq
            simp at hq
            exact hge c v hc hq.1 hv
        refine pz_T_mono (pz_c_spread he hm hN hx htoll hrow hheap' hsp) ?_
        rintro _ ⟨n2, r2, h2, s2, d2, B2, rfl, hrow2, hheap2, hsp2, hrxx, hxp2⟩
        obtain ⟨hok2, hrb2, hin2, hrx2, hle2, hge2, hdx2, hBx2⟩ := hsp2
        have hc2 : pz_cnt (pz_xp d2 B2) (W * H * D) = pz_cnt (pz_xp d B) (W * H * D) + 1 := by
          rw [← hcnt]
          exact pz_cnt_congr (fun c hc => (hxp2 c hc).1)
        refine hrc ((W * H * D) - pz_cnt (pz_xp d2 B2) (W * H * D)) _ _ (by omega) ⟨n2, r2, h2, s2, d2, B2, rfl, by rw [hc2], rfl, hrow2, hheap2, ⟨hok2, hrb2, hin2, ?_, ?_, ?_⟩⟩
        · intro b hb hq
          by_cases e1 : b = x
          · subst e1; exact hrxx
          · exact hrx2 b hb e1 hq
        · intro b c u v hb hc hq hu hqc hv
          have := hle2 b u hb hq hu
          have := hge2 c v hc hqc hv
          omega
        · intro c u hc hq hu ho
          have hq1 := hq
          rw [(hxp2 c hc).1] at hq1
          by_cases e1 : c = x
          · subst e1
            rw [hdx2] at hu
            cases hu
            exact how ho
          · have hq3 := hq1
            rw [hxpn c hc e1] at hq1
            rw [(hxp2 c hc).2 hq3] at hu
            exact hown c u hc hq1 hu ho
      refine ⟨hx, fun ho => ⟨hx, fun ha0 => hgo (fun _ => ha0), fun ha0 => ?_⟩, fun hno => hgo (fun ho => absurd ho hno)⟩
      refine ⟨_, r, t, h', s', d, rfl, hrow, hrb, hok, htoll, Or.inr ⟨rfl, x, a, hx, ho, by omega, hda, ?_, ?_⟩⟩
      · intro c u hu
        refine pz_near_mn (X := fun b => b < (W * H * D) ∧ pz_xp d B b = true) hE hok (fun b hb => hrx b hb.1 hb.2) ?_ hu
        intro c v hv hnx
        have hc := (hrb c v hv).1
        refine hge c v hc ?_ hv
        cases hq : (B c).isSome
        · exact absurd ⟨hc, pz_xp_t.mpr ⟨by rw [hv]; rfl, hq⟩⟩ hnx
        · rfl
      · intro c u hc ho2 hu
        cases hq : (B c).isSome
        · exact Or.inl (hown c u hc (pz_xp_t.mpr ⟨by rw [hu]; rfl, hq⟩) hu ho2)
        · exact Or.inr (hge c u hc hq hu)
  · have : pz_cnt (pz_xp d0 B0) (W * H * D) = 0 := by
      have h1 : pz_cnt (pz_xp d0 B0) (W * H * D) = pz_cnt (fun _ => false) (W * H * D) := pz_cnt_congr (fun c hc => by unfold pz_xp; rw [hB0 c hc]; cases (d0 c).isSome <;> rfl)
      have h2 : ∀ m, pz_cnt (fun _ => false) m = 0 := by
        intro m
        induction m with
        | zero => rfl
        | succ m ih => simp only [pz_cnt, ih]; rfl
      rw [h1, h2]
    rw [this]
    rfl
  · have hnx : ∀ c, c < (W * H * D) → pz_xp d0 B0 c = false := by
      intro c hc
      unfold pz_xp
      rw [hB0 c hc]
      cases (d0 c).isSome <;> rfl
    have hTz : ∀ c, pz_Tt ts tr c → c < (W * H * D) := by
      rintro c ⟨i, hi, rfl⟩
      exact (ht.2.2 i hi).2
    refine ⟨⟨?_, ?_⟩, ?_, ?_, ?_, ?_, ?_⟩
    · intro c v hv
      rcases hd0 c with ⟨h1, h2⟩ | ⟨h1, -⟩
      · rw [h1] at hv
        cases hv
        exact pz_D_tree h2
      · rw [h1] at hv; cases hv
    · intro c hc
      rcases hd0 c with ⟨h1, -⟩ | ⟨-, h2⟩
      · exact h1
      · exact absurd hc h2
    · intro c v hv
      rcases hd0 c with ⟨h1, h2⟩ | ⟨h1, -⟩
      · rw [h1] at hv
        cases hv
        exact ⟨hTz c h2, Nat.zero_le _⟩
      · rw [h1] at hv; cases hv
    · intro c hc hq
      rw [← hB0 c hc]; exact hq
    · intro b hb hq
      rw [hnx b hb] at hq; cases hq
    · intro b c u v hb _ hq
      rw [hnx b hb] at hq; cases hq
    · intro c u hc hq
      rw [hnx c hc] at hq; cases hq

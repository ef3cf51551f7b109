def pz_row (z : Nat) (r : Nat → Int64) (d : Nat → Option Nat) : Prop := ∀ c, c < z → r c = pz_lo (d c)
def pz_Tr (z : Nat) (t : Nat → Int32) (c : Nat) : Prop := c < z ∧ t c ≠ 0
theorem pz_row_du {z : Nat} {r : Nat → Int64} {d : Nat → Option Nat} (h : pz_row z r d) {c v : Nat} : pz_row z (vp_updL r c (lN v)) (pz_du d c v) := by
  intro j hj
  by_cases hq : j = c
  · subst hq
    rw [pk_uLs, pz_du_s, pz_lo_s]
  · rw [pk_uLn hq, pz_du_n hq]
    exact h j hj
theorem pz_mgeo_sA {W H D : Nat} {M : zz_St} (h : pz_mgeo W H D M) {j : Nat} {r : Nat → Int64} : pz_mgeo W H D (zz_sA M j r) := h
theorem pz_menv_sA {W H D : Nat} {e : pz_Env} {k : Int32} {M : zz_St} (h : pz_menv W H D e k M) (r : Nat → Int64) : pz_menv W H D e k (zz_sA M 16 r) := by
  obtain ⟨h1, h2, h3⟩ := h
  refine ⟨h1, ?_, h3⟩
  simp (disch := omega) only [pz_ga_sA, pz_gA_sA_n]
  exact h2
theorem pz_lo_lt0 {x : Option Nat} (h : ∀ v, x = some v → v < 9223372036854775808) : (pz_lo x < 0) = (x = none) := by
  cases x with
  | none => simp [pz_lo_n]
  | some v => rw [pz_lo_s, pz_lN_n0 (h v rfl)]; simp
theorem pz_m_search {W H D : Nat} {e : pz_Env} (he : pz_ev W H D e) {k : Int32} {M : zz_St} (hm : pz_menv W H D e k M) {N : Nat} (hN : 2000 ≤ N) (rip : Bool) :
    pz_T (zf_X7_search N M k (pz_b rip)) (fun M' => ∃ r d, M' = zz_sA M 16 r ∧ pz_row (W * H * D) r d ∧ pz_rb (W * H * D) d ∧ ∀ c v, d c = some v ↔ pz_mn (pz_E W H D e rip) (pz_Tr (W * H * D) (zz_ga M 17)) c v) := by
  have hs := he.1
  have hg := hm.1
  have hz := hs.2.2.2.2.1
  have hE : ∀ b c w, (pz_E W H D e rip) b c w → c < (W * H * D) ∧ 0 < w := fun b c w h => pz_E_ok he h
  have hTz : ∀ c, (pz_Tr (W * H * D) (zz_ga M 17)) c → c < (W * H * D) := fun c h => h.1
  have hall : zz_gi M 1 * zz_gi M 2 * zz_gi M 3 = nI (W * H * D) := by rw [hg.1, hg.2.1, hg.2.2, pk_mul, pk_mul]
  unfold zf_X7_search
  simp only [pz_T_let]
  rw [hall]
  refine pz_for2 (e := (W * H * D)) (fun n S => ∃ r, S = zz_sA M 16 r ∧ ∀ c, c < n → r c = pz_lo (if zz_ga M 17 c = 0 then none else some 0)) ?_ N 0 M (by omega) ⟨zz_gA M 16, pz_sA_id.symm, fun c hc => by omega⟩ (by omega)
  rintro rc n _ hn ⟨r, rfl, hr⟩ hrc
  simp only [pz_T_ite, pz_T_gd, pz_T_jn1, pz_T_jn2, pz_T_some, pz_T_let, pz_T_b1, pz_T_b2]
  refine ⟨fun hge => ?_, fun hlt => ?_⟩
  · -- the passes
    rw [pz_leI (by omega) (by omega)] at hge
    have hn' : n = (W * H * D) := by omega
    subst hn'
    refine pz_fixm2 (fun m more S => ∃ r d, S = zz_sA M 16 r ∧ pz_row (W * H * D) r d ∧ pz_ok (pz_E W H D e rip) (pz_Tr (W * H * D) (zz_ga M 17)) d ∧ pz_rb (W * H * D) d ∧ ((more = 0 ∧ m = 0 ∧ ∀ b, pz_rx (pz_E W H D e rip) d d b) ∨ (more = 1 ∧ m = 1 + ((W * H * D) - pz_cnt (pz_exb (pz_E W H D e rip) (pz_Tr (W * H * D) (zz_ga M 17)) d) (W * H * D))))) ?_ N (1 + ((W * H * D) - pz_cnt (pz_exb (pz_E W H D e rip) (pz_Tr (W * H * D) (zz_ga M 17)) (fun c => if c < (W * H * D) ∧ zz_ga M 17 c ≠ 0 then some 0 else none)) (W * H * D))) _ _ ?_ (by omega)
    · rintro rc2 m more _ ⟨r, d, rfl, hrow, hok, hrb, hcase⟩ hrc2
      simp only [pz_T_ite, pz_T_gd, pz_T_jn1, pz_T_jn2, pz_T_some, pz_T_let, pz_T_b1, pz_T_b2]
      refine ⟨fun h0 => ?_, fun h0 => ?_⟩
      · rcases hcase with ⟨-, -, hrx⟩ | ⟨h1, -⟩
        · exact ⟨r, d, rfl, hrow, hrb, pz_exact hok hrx⟩
        · rw [h1] at h0
          exact absurd h0 (by decide)
      · have hm1 : m = 1 + ((W * H * D) - pz_cnt (pz_exb (pz_E W H D e rip) (pz_Tr (W * H * D) (zz_ga M 17)) d) (W * H * D)) := by
          rcases hcase with ⟨h1, -⟩ | ⟨-, h1⟩
          · exact absurd h1 h0
          · exact h1
        refine pz_for3 (e := (W * H * D)) (fun c flag S => ∃ r1 d1, S = zz_sA M 16 r1 ∧ pz_row (W * H * D) r1 d1 ∧ pz_ok (pz_E W H D e rip) (pz_Tr (W * H * D) (zz_ga M 17)) d1 ∧ pz_rb (W * H * D) d1 ∧ pz_lte d d1 ∧ (∀ b, b < c → pz_rx (pz_E W H D e rip) d d1 b) ∧ ((flag = 0 ∧ d1 = d) ∨ (flag = 1 ∧ ∃ c0, ¬ pz_ex (pz_E W H D e rip) (pz_Tr (W * H * D) (zz_ga M 17)) d c0))) ?_ N 0 0 _ (by omega) ⟨r, d, rfl, hrow, hok, hrb, pz_lte_refl d, fun b hb => by omega, Or.inl ⟨rfl, rfl⟩⟩ (by omega)
        rintro rc3 c flag _ hc ⟨r1, d1, rfl, hrow1, hok1, hrb1, hlte, hrx, hflag⟩ hrc3
        simp only [pz_T_ite, pz_T_gd, pz_T_jn1, pz_T_jn2, pz_T_some, pz_T_let, pz_T_b1, pz_T_b2]
        refine ⟨fun hge2 => ?_, fun hlt2 => ?_⟩
        · rw [pz_leI (by omega) (by omega)] at hge2
          have hc' : c = (W * H * D) := by omega
          subst hc'
          have hrxa : ∀ b, pz_rx (pz_E W H D e rip) d d1 b := by
            intro b
            by_cases hb : b < (W * H * D)
            · exact hrx b hb
            · intro c' w a hE'
              exact absurd hE'.1 hb
          rcases hflag with ⟨rfl, hdd⟩ | ⟨rfl, c0, hc0⟩
          · subst hdd
            exact hrc2 0 _ _ (by omega) ⟨r1, d1, rfl, hrow1, hok1, hrb1, Or.inl ⟨rfl, rfl, hrxa⟩⟩
          · have hp := pz_pass hE hTz hok hok1 hlte hrxa hc0
            have hp2 := pz_cnt_le (pz_exb (pz_E W H D e rip) (pz_Tr (W * H * D) (zz_ga M 17)) d1) (W * H * D)
            exact hrc2 _ _ _ (by omega) ⟨r1, d1, rfl, hrow1, hok1, hrb1, Or.inr ⟨rfl, rfl⟩⟩
        · rw [pz_leI (by omega) (by omega)] at hlt2
          have hcz : c < (W * H * D) := by omega
          refine pz_for3 (e := 6) (fun n flag S => ∃ r2 d2, S = zz_sA M 16 r2 ∧ pz_row (W * H * D) r2 d2 ∧ pz_ok (pz_E W H D e rip) (pz_Tr (W * H * D) (zz_ga M 17)) d2 ∧ pz_rb (W * H * D) d2 ∧ pz_lte d d2 ∧ (∀ b, b < c → pz_rx (pz_E W H D e rip) d d2 b) ∧ ((flag = 0 ∧ d2 = d) ∨ (flag = 1 ∧ ∃ c0, ¬ pz_ex (pz_E W H D e rip) (pz_Tr (W * H * D) (zz_ga M 17)) d c0)) ∧ (∀ m, m < n → ∀ c' a, pz_nb W H D c m = some c' → pz_can e rip c' = true → d c = some a → ∃ v, d2 c' = some v ∧ v ≤ a + pz_wt W H D e rip c m c')) ?_ N 0 flag _ (by omega) ⟨r1, d1, rfl, hrow1, hok1, hrb1, hlte, hrx, hflag, fun m hm => by omega⟩ (by omega)
          rintro rc4 n flag2 _ hn ⟨r2, d2, rfl, hrow2, hok2, hrb2, hlte2, hrx2, hflag2, hdone⟩ hrc4
          have hbd : ∀ j v, d2 j = some v → v ≤ 2048000000000 := fun j v h => pz_rb_le hz hrb2 h
          have hexit : (6 ≤ n ∨ d2 c = none) → pz_T (rc3 flag2 (nI (c + 1)) (zz_sA M 16 r2)) (fun M' => ∃ r d, M' = zz_sA M 16 r ∧ pz_row (W * H * D) r d ∧ pz_rb (W * H * D) d ∧ ∀ c v, d c = some v ↔ pz_mn (pz_E W H D e rip) (pz_Tr (W * H * D) (zz_ga M 17)) c v) := by
            intro hx
            refine hrc3 hcz _ _ ⟨r2, d2, rfl, hrow2, hok2, hrb2, hlte2, ?_, hflag2⟩
            intro b hb
            by_cases hbc : b = c
            · subst hbc
              rintro c' w a ⟨-, m, hm6, hnb, hcan, rfl⟩ hda
              rcases hx with hx | hx
              · exact hdone m (by omega) c' a hnb hcan hda
              · obtain ⟨u, hu, -⟩ := hlte2 b a hda
                rw [hx] at hu
                cases hu
            · exact hrx2 b (by omega)
          simp only [pz_T_ite, pz_T_gd, pz_T_jn1, pz_T_jn2, pz_T_some, pz_T_let, pz_T_b1, pz_T_b2]
          simp (disch := omega) only [pz_c6a, pz_in, nI_clampI, nI_1, pz_gA_sA, pz_sAA, pz_l_lt, pz_l_gt, hrow2 c hcz]
          refine ⟨fun h6 => hexit (Or.inl h6), fun h6 => ⟨by omega, fun hlt0 => ?_, fun hge0 => ?_⟩⟩
          · rw [pz_lo_lt0 (fun v hv => by have := hbd c v hv; omega)] at hlt0
            exact hexit (Or.inr hlt0)
          · rw [pz_lo_lt0 (fun v hv => by have := hbd c v hv; omega)] at hge0
            obtain ⟨a, ha⟩ : ∃ a, d2 c = some a := by
              cases hq : d2 c with
              | none => exact absurd hq hge0
              | some a => exact ⟨a, rfl⟩
            have hab := hbd c a ha
            have hme := pz_menv_sA hm r2
            have hcontN : (pz_nb W H D c n = none ∨ ∃ c', pz_nb W H D c n = some c' ∧ (pz_can e rip c' = false ∨ ∃ v, d2 c' = some v ∧ v ≤ a + pz_wt W H D e rip c n c')) → pz_T (rc4 flag2 (nI (n + 1)) (zz_sA M 16 r2)) (fun M' => ∃ r d, M' = zz_sA M 16 r ∧ pz_row (W * H * D) r d ∧ pz_rb (W * H * D) d ∧ ∀ c v, d c = some v ↔ pz_mn (pz_E W H D e rip) (pz_Tr (W * H * D) (zz_ga M 17)) c v) := by
              intro hx
              refine hrc4 (by omega) _ _ ⟨r2, d2, rfl, hrow2, hok2, hrb2, hlte2, hrx2, hflag2, ?_⟩
              intro m hm c' a' hnb hcan hda
              by_cases hmn : m = n
              · subst hmn
                obtain ⟨u, hu, hua⟩ := hlte2 c a' hda
                rw [ha] at hu
                cases hu
                rcases hx with hx | ⟨c2, hx, hx2⟩
                · rw [hx] at hnb; cases hnb
                · rw [hx] at hnb
                  cases hnb
                  rcases hx2 with hx2 | ⟨v, hv, hva⟩
                  · rw [hx2] at hcan; cases hcan
                  · exact ⟨v, hv, by omega⟩
              · exact hdone m (by omega) c' a' hnb hcan hda
            rw [pz_T_eq (pz_m_neighbour hs hme.1 hcz (by omega))]
            rw [pz_T_eq (pz_m_canCome he hme _ (fun d' h => pz_nb_lt hs.1 hs.2.1 hcz h) rip)]
            cases hnb : pz_nb W H D c n with
            | none =>
              refine ⟨fun _ => hcontN (Or.inl hnb), fun h => absurd ?_ h⟩
              rfl
            | some c' =>
              have hc' := pz_nb_lt hs.1 hs.2.1 hcz hnb
              simp only [pz_b_0, pz_canO]
              refine ⟨fun hcf => hcontN (Or.inr ⟨c', hnb, Or.inl hcf⟩), fun hct => ⟨by omega, ?_⟩⟩
              have hct' : pz_can e rip c' = true := by simpa using hct
              have hedge : (pz_E W H D e rip) c c' (pz_wt W H D e rip c n c') := ⟨hcz, n, by omega, hnb, hct', rfl⟩
              rw [pz_o_s, pz_T_eq (pz_m_step he hme (by omega) hcz (by omega) hnb rip)]
              have hwt := pz_wt_le he (rip := rip) (n := n) hcz hc'
              simp (disch := omega) only [pz_in, nI_clampI, hrow2 c' hc', ha, pz_lo_s, lN_add]
              have hupd : (∀ u, d2 c' = some u → a + pz_wt W H D e rip c n c' < u) → pz_T (rc4 1 (nI (n + 1)) (zz_sA M 16 (vp_updL r2 c' (lN (a + pz_wt W H D e rip c n c'))))) (fun M' => ∃ r d, M' = zz_sA M 16 r ∧ pz_row (W * H * D) r d ∧ pz_rb (W * H * D) d ∧ ∀ c v, d c = some v ↔ pz_mn (pz_E W H D e rip) (pz_Tr (W * H * D) (zz_ga M 17)) c v) := by
                intro hu
                have hl2 : pz_lte d2 (pz_du d2 c' (a + pz_wt W H D e rip c n c')) := pz_lte_du (fun u h => by have := hu u h; omega)
                refine hrc4 (by omega) _ _ ⟨_, pz_du d2 c' (a + pz_wt W H D e rip c n c'), rfl, pz_row_du hrow2, pz_ok_du hok2 ha hedge hu, pz_rb_du hrb2 hc' ha (by omega) (fun u h => by have := hu u h; omega), pz_lte_trans hlte2 hl2, ?_, Or.inr ⟨rfl, c', ?_⟩, ?_⟩
                · intro b hb c2 w a2 hE2 hd2
                  obtain ⟨v, hv, hva⟩ := hrx2 b hb c2 w a2 hE2 hd2
                  obtain ⟨u, hu2, huv⟩ := hl2 c2 v hv
                  exact ⟨u, hu2, by omega⟩
                · intro hex
                  obtain ⟨u, hle, hmn⟩ := pz_mn_ex (pz_D_step (hok2.1 c a ha) hedge)
                  obtain ⟨u2, h1, h2⟩ := hlte2 c' u (hex u hmn)
                  have := hu u2 h1
                  omega
                · intro m hm c2 a2 hnb2 hcan2 hda2
                  by_cases hmn : m = n
                  · subst hmn
                    rw [hnb] at hnb2
                    cases hnb2
                    obtain ⟨u, hu2, hua⟩ := hlte2 c a2 hda2
                    rw [ha] at hu2
                    cases hu2
                    exact ⟨_, pz_du_s, by omega⟩
                  · obtain ⟨v, hv, hva⟩ := hdone m (by omega) c2 a2 hnb2 hcan2 hda2
                    obtain ⟨u, hu2, huv⟩ := hl2 c2 v hv
                    exact ⟨u, hu2, by omega⟩
              refine ⟨by omega, fun hl0 => ⟨by omega, hupd ?_⟩, fun hl0 => ⟨by omega, fun hgt => ⟨by omega, hupd ?_⟩, fun hng => hcontN (Or.inr ⟨c', hnb, Or.inr ?_⟩)⟩⟩
              · rw [pz_lo_lt0 (fun v hv => by have := hbd c' v hv; omega)] at hl0
                intro u hu
                rw [hl0] at hu
                cases hu
              · intro u hu
                have := hbd c' u hu
                rw [hu, pz_lo_s, pz_lN_lt (by omega) (by omega)] at hgt
                exact hgt
              · rw [pz_lo_lt0 (fun v hv => by have := hbd c' v hv; omega)] at hl0
                cases hq : d2 c' with
                | none => exact absurd hq hl0
                | some u =>
                  have := hbd c' u hq
                  rw [hq, pz_lo_s, pz_lN_lt (by omega) (by omega)] at hng
                  exact ⟨u, rfl, by omega⟩
    · refine ⟨r, _, rfl, ?_, ⟨?_, ?_⟩, ?_, Or.inr ⟨rfl, rfl⟩⟩
      · intro c hc
        rw [hr c hc]
        by_cases hq : zz_ga M 17 c = 0 <;> simp [hq, hc]
      · intro c v hv
        try dsimp only at hv
        split at hv
        · rename_i hq
          cases hv
          exact pz_D_tree hq
        · cases hv
      · intro c hc
        have hc2 := hc
        try dsimp only
        exact if_pos hc2
      · intro c v hv
        try dsimp only at hv
        split at hv
        · rename_i hq
          cases hv
          exact ⟨hq.1, Nat.zero_le _⟩
        · cases hv
  · rw [pz_leI (by omega) (by omega)] at hlt
    simp (disch := omega) only [pz_in, nI_clampI, nI_1, pz_ga_sA, pz_gA_sA, pz_sAA]
    have key : ∀ x, x = pz_lo (if zz_ga M 17 n = 0 then none else some 0) → pz_T (rc (nI (n + 1)) (zz_sA M 16 (vp_updL r n x))) (fun M' => ∃ r d, M' = zz_sA M 16 r ∧ pz_row (W * H * D) r d ∧ pz_rb (W * H * D) d ∧ ∀ c v, d c = some v ↔ pz_mn (pz_E W H D e rip) (pz_Tr (W * H * D) (zz_ga M 17)) c v) := by
      rintro x rfl
      refine hrc (by omega) _ ⟨_, rfl, fun c hc => ?_⟩
      by_cases hcn : c = n
      · subst hcn; rw [pk_uLs]
      · rw [pk_uLn hcn]; exact hr c (by omega)
    refine ⟨by omega, fun h0 => ⟨by omega, key _ ?_⟩, fun h0 => ⟨by omega, key _ ?_⟩⟩
    · simp [h0, pz_lo]
    · rw [if_neg h0]; rfl

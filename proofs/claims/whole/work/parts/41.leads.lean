theorem pr_c_startAt {S : zz_St} {N z c : Nat} (hz : z ≤ 1024) (h0 : 0 < z) :
    zf_X5_startAt N z S (nI c) = some (zz_si (zz_sa (zz_si S 7 0) 16 (upd (zz_ga S 16) 0 (nI c))) 7 (nI 1)) := by
  apply pz_eq_of
  unfold zf_X5_startAt zf_X5_add
  simp only [pz_T_ite, pz_T_gd, pz_T_jn1, pz_T_jn2, pz_T_some, pz_T_let, pz_T_b1, pz_T_b2]
  simp (disch := omega) only [pz_gi_si, pz_gi_si_n, pz_gi_sl, pz_gi_sa, pz_gi_sA, pz_gi_sp, pz_gl_si, pz_gl_sl, pz_gl_sl_n, pz_gl_sa, pz_gl_sA, pz_gl_sp, pz_ga_si, pz_ga_sl, pz_ga_sa, pz_ga_sa_n, pz_ga_sA, pz_ga_sp, pz_gA_si, pz_gA_sl, pz_gA_sa, pz_gA_sA, pz_gA_sA_n, pz_gA_sp, pz_gp_si, pz_gp_sl, pz_gp_sa, pz_gp_sA, pz_gp_sp, pz_gp_sp_n]
  have e0 : (nI z ≤ (0 : Int32)) = (z ≤ 0) := pz_c0c (by omega)
  have e1 : zz_in (0 : Int32) z = true := (pz_in (n := 0) (by omega)).mpr h0
  rw [e0]
  exact ⟨fun h => by omega, fun _ => ⟨e1, rfl⟩⟩
theorem pr_lead {W H D nn q : Nat} {pc : Nat → Nat} {pn : Nat → Nat → Nat} {k k0 N : Nat} {S M : zz_St} (hR : pr_R W H D nn q pc pn k0 (fun _ => False) S M) (hk : k < nn) (hpc : 0 < pc k) (h22 : zz_ga S 22 k = 0) (hq : q + 20 ≤ 1000000000) (hN : 2000 ≤ N) :
    pz_T (zf_X6_lead N (W * H * D) S (nI k)) (fun S' => pz_T (zf_X7_lead N M (nI k)) (fun M' => pr_R W H D nn (q + 6) pc pn k (fun _ => False) S' M' ∧ zz_ga S' 7 = zz_ga S 7 ∧ zz_ga M' 18 = zz_ga M 18 ∧ zz_gi M' 0 = zz_gi M 0)) := by
  have hR0 := hR
  obtain ⟨hs, hA, hB, hC, hD, hE, hF, hG⟩ := hR
  have hz := hs.2.2.2.2.1
  have hnn := hA.2.2.1
  have hk12 : k < 12 := by omega
  have hd := hD k hk12
  have hp0 := (hE k hk12).1 0 hpc
  have hzp : 0 < (W * H * D) := by have := hp0.2.2.1; omega
  have hp1024 : pn k 0 < 1024 := by have := hp0.2.2.1; omega
  rw [pr_lead_c]
  simp only [pz_T_ite, pz_T_gd, pz_T_jn1, pz_T_jn2, pz_T_some, pz_T_let, pz_T_b1, pz_T_b2]
  simp (disch := omega) only [pz_gi_si, pz_gi_si_n, pz_gi_sl, pz_gi_sa, pz_gi_sA, pz_gi_sp, pz_gl_si, pz_gl_sl, pz_gl_sl_n, pz_gl_sa, pz_gl_sA, pz_gl_sp, pz_ga_si, pz_ga_sl, pz_ga_sa, pz_ga_sa_n, pz_ga_sA, pz_ga_sp, pz_gA_si, pz_gA_sl, pz_gA_sa, pz_gA_sA, pz_gA_sA_n, pz_gA_sp, pz_gp_si, pz_gp_sl, pz_gp_sa, pz_gp_sA, pz_gp_sp, pz_gp_sp_n, nI_clampI, pz_zcl, hp0.1]
  rw [pz_T_eq (pr_c_startAt hz hzp)]
  refine ⟨(pz_in (by omega)).mpr hk12, by decide, ?_⟩
  refine pz_T_swap ?_
  rw [pr_lead_m]
  simp only [pz_T_ite, pz_T_gd, pz_T_jn1, pz_T_jn2, pz_T_some, pz_T_let, pz_T_b1, pz_T_b2]
  simp (disch := omega) only [pz_gi_si, pz_gi_si_n, pz_gi_sl, pz_gi_sa, pz_gi_sA, pz_gi_sp, pz_gl_si, pz_gl_sl, pz_gl_sl_n, pz_gl_sa, pz_gl_sA, pz_gl_sp, pz_ga_si, pz_ga_sl, pz_ga_sa, pz_ga_sa_n, pz_ga_sA, pz_ga_sp, pz_gA_si, pz_gA_sl, pz_gA_sa, pz_gA_sA, pz_gA_sA_n, pz_gA_sp, pz_gp_si, pz_gp_sl, pz_gp_sa, pz_gp_sA, pz_gp_sp, pz_gp_sp_n, nI_clampI]
  refine ⟨(pz_in (by omega)).mpr hk12, (pz_in (by omega)).mpr hk12, (pz_in (by omega)).mpr hk12, ?_⟩
  refine pz_for2 (e := 1024) (fun m M' => ∃ f, M' = zz_sa (zz_sa (zz_sA (zz_sa M 15 (upd (zz_ga M 15) k 0)) 13 (vp_updL (zz_gA M 13) k 0)) 11 (upd (zz_ga M 11) k 0)) 17 f ∧ ∀ c, c < m → f c = 0) ?_ N 0 _ (by omega) ⟨zz_ga M 17, ?_, fun c hc => by omega⟩ (by omega)
  · rintro rc m _ hm ⟨f, rfl, hf⟩ hrc
    simp only [pz_T_ite]
    simp (disch := omega) only [pz_c1024a]
    refine ⟨fun hge => ?_, fun hlt => ?_⟩
    · have hm' : m = 1024 := by omega
      subst hm'
      clear hrc
      simp only [pz_T_gd, pz_T_b1]
      simp (disch := omega) only [pz_5m, pz_in, nI_clampI, pz_gi_si, pz_gi_si_n, pz_gi_sl, pz_gi_sa, pz_gi_sA, pz_gi_sp, pz_gl_si, pz_gl_sl, pz_gl_sl_n, pz_gl_sa, pz_gl_sA, pz_gl_sp, pz_ga_si, pz_ga_sl, pz_ga_sa, pz_ga_sa_n, pz_ga_sA, pz_ga_sp, pz_gA_si, pz_gA_sl, pz_gA_sa, pz_gA_sA, pz_gA_sA_n, pz_gA_sp, pz_gp_si, pz_gp_sl, pz_gp_sa, pz_gp_sA, pz_gp_sp, pz_gp_sp_n]
      have h2 : zz_ga M 2 (5 * k) = nI (pn k 0) := by have := hp0.2.1; simpa using this
      rw [h2]
      refine ⟨by omega, ?_⟩
      have hid := pz_m3_id (S := zz_sa (zz_sa (zz_sA (zz_sa M 15 (upd (zz_ga M 15) k 0)) 13 (vp_updL (zz_gA M 13) k 0)) 11 (upd (zz_ga M 11) k 0)) 17 f)
      have hcm := pz_m_comes (M := zz_sa (zz_sa (zz_sA (zz_sa M 15 (upd (zz_ga M 15) k 0)) 13 (vp_updL (zz_gA M 13) k 0)) 11 (upd (zz_ga M 11) k 0)) 17 f) (N := N) (k := k) (c := pn k 0) (t := 0) (f := zz_ga (zz_sa (zz_sa (zz_sA (zz_sa M 15 (upd (zz_ga M 15) k 0)) 13 (vp_updL (zz_gA M 13) k 0)) 11 (upd (zz_ga M 11) k 0)) 17 f) 17) (g := zz_ga (zz_sa (zz_sa (zz_sA (zz_sa M 15 (upd (zz_ga M 15) k 0)) 13 (vp_updL (zz_gA M 13) k 0)) 11 (upd (zz_ga M 11) k 0)) 17 f) 12) (h := zz_ga (zz_sa (zz_sa (zz_sA (zz_sa M 15 (upd (zz_ga M 15) k 0)) 13 (vp_updL (zz_gA M 13) k 0)) 11 (upd (zz_ga M 11) k 0)) 17 f) 11) hk12 hp1024 (by omega) (by rw [pz_ga_sa_n (by decide), pz_ga_sa, pk_us]; rfl)
      rw [← hid] at hcm
      rw [pz_T_eq hcm]
      refine pz_T_swap ?_
      obtain ⟨r1, r2, r3⟩ := pr_start (S' := zz_si (zz_sa (zz_si (zz_sa (zz_sA S 21 (vp_updL (zz_gA S 21) k 0)) 23 (upd (zz_ga S 23) k 0)) 7 0) 16 (upd (zz_ga S 16) 0 (nI (pn k 0)))) 7 (nI 1)) (M' := pz_m3 (zz_sa (zz_sa (zz_sA (zz_sa M 15 (upd (zz_ga M 15) k 0)) 13 (vp_updL (zz_gA M 13) k 0)) 11 (upd (zz_ga M 11) k 0)) 17 f) (upd (zz_ga (zz_sa (zz_sa (zz_sA (zz_sa M 15 (upd (zz_ga M 15) k 0)) 13 (vp_updL (zz_gA M 13) k 0)) 11 (upd (zz_ga M 11) k 0)) 17 f) 17) (pn k 0) 1) (upd (zz_ga (zz_sa (zz_sa (zz_sA (zz_sa M 15 (upd (zz_ga M 15) k 0)) 13 (vp_updL (zz_gA M 13) k 0)) 11 (upd (zz_ga M 11) k 0)) 17 f) 12) (1024 * k + 0) (nI (pn k 0))) (upd (zz_ga (zz_sa (zz_sa (zz_sA (zz_sa M 15 (upd (zz_ga M 15) k 0)) 13 (vp_updL (zz_gA M 13) k 0)) 11 (upd (zz_ga M 11) k 0)) 17 f) 11) k (nI (0 + 1)))) hR0 hk hpc h22
        (by intro i hi; simp (disch := omega) only [pz_gi_si, pz_gi_si_n, pz_gi_sl, pz_gi_sa, pz_gi_sA, pz_gi_sp, pz_gl_si, pz_gl_sl, pz_gl_sl_n, pz_gl_sa, pz_gl_sA, pz_gl_sp, pz_ga_si, pz_ga_sl, pz_ga_sa, pz_ga_sa_n, pz_ga_sA, pz_ga_sp, pz_gA_si, pz_gA_sl, pz_gA_sa, pz_gA_sA, pz_gA_sA_n, pz_gA_sp, pz_gp_si, pz_gp_sl, pz_gp_sa, pz_gp_sA, pz_gp_sp, pz_gp_sp_n]) (by simp (disch := omega) only [pz_gi_si, pz_gi_si_n, pz_gi_sl, pz_gi_sa, pz_gi_sA, pz_gi_sp, pz_gl_si, pz_gl_sl, pz_gl_sl_n, pz_gl_sa, pz_gl_sA, pz_gl_sp, pz_ga_si, pz_ga_sl, pz_ga_sa, pz_ga_sa_n, pz_ga_sA, pz_ga_sp, pz_gA_si, pz_gA_sl, pz_gA_sa, pz_gA_sA, pz_gA_sA_n, pz_gA_sp, pz_gp_si, pz_gp_sl, pz_gp_sa, pz_gp_sA, pz_gp_sp, pz_gp_sp_n]) (by simp (disch := omega) only [pz_gi_si, pz_gi_si_n, pz_gi_sl, pz_gi_sa, pz_gi_sA, pz_gi_sp, pz_gl_si, pz_gl_sl, pz_gl_sl_n, pz_gl_sa, pz_gl_sA, pz_gl_sp, pz_ga_si, pz_ga_sl, pz_ga_sa, pz_ga_sa_n, pz_ga_sA, pz_ga_sp, pz_gA_si, pz_gA_sl, pz_gA_sa, pz_gA_sA, pz_gA_sA_n, pz_gA_sp, pz_gp_si, pz_gp_sl, pz_gp_sa, pz_gp_sA, pz_gp_sp, pz_gp_sp_n])
        (by intro r a1 a2; simp (disch := omega) only [pz_gi_si, pz_gi_si_n, pz_gi_sl, pz_gi_sa, pz_gi_sA, pz_gi_sp, pz_gl_si, pz_gl_sl, pz_gl_sl_n, pz_gl_sa, pz_gl_sA, pz_gl_sp, pz_ga_si, pz_ga_sl, pz_ga_sa, pz_ga_sa_n, pz_ga_sA, pz_ga_sp, pz_gA_si, pz_gA_sl, pz_gA_sa, pz_gA_sA, pz_gA_sA_n, pz_gA_sp, pz_gp_si, pz_gp_sl, pz_gp_sa, pz_gp_sA, pz_gp_sp, pz_gp_sp_n]) (by simp (disch := omega) only [pz_gi_si, pz_gi_si_n, pz_gi_sl, pz_gi_sa, pz_gi_sA, pz_gi_sp, pz_gl_si, pz_gl_sl, pz_gl_sl_n, pz_gl_sa, pz_gl_sA, pz_gl_sp, pz_ga_si, pz_ga_sl, pz_ga_sa, pz_ga_sa_n, pz_ga_sA, pz_ga_sp, pz_gA_si, pz_gA_sl, pz_gA_sa, pz_gA_sA, pz_gA_sA_n, pz_gA_sp, pz_gp_si, pz_gp_sl, pz_gp_sa, pz_gp_sA, pz_gp_sp, pz_gp_sp_n, pk_us]) (by simp (disch := omega) only [pz_gi_si, pz_gi_si_n, pz_gi_sl, pz_gi_sa, pz_gi_sA, pz_gi_sp, pz_gl_si, pz_gl_sl, pz_gl_sl_n, pz_gl_sa, pz_gl_sA, pz_gl_sp, pz_ga_si, pz_ga_sl, pz_ga_sa, pz_ga_sa_n, pz_ga_sA, pz_ga_sp, pz_gA_si, pz_gA_sl, pz_gA_sa, pz_gA_sA, pz_gA_sA_n, pz_gA_sp, pz_gp_si, pz_gp_sl, pz_gp_sa, pz_gp_sA, pz_gp_sp, pz_gp_sp_n]) (by simp (disch := omega) only [pz_gi_si, pz_gi_si_n, pz_gi_sl, pz_gi_sa, pz_gi_sA, pz_gi_sp, pz_gl_si, pz_gl_sl, pz_gl_sl_n, pz_gl_sa, pz_gl_sA, pz_gl_sp, pz_ga_si, pz_ga_sl, pz_ga_sa, pz_ga_sa_n, pz_ga_sA, pz_ga_sp, pz_gA_si, pz_gA_sl, pz_gA_sa, pz_gA_sA, pz_gA_sA_n, pz_gA_sp, pz_gp_si, pz_gp_sl, pz_gp_sa, pz_gp_sA, pz_gp_sp, pz_gp_sp_n]) (by simp (disch := omega) only [pz_gi_si, pz_gi_si_n, pz_gi_sl, pz_gi_sa, pz_gi_sA, pz_gi_sp, pz_gl_si, pz_gl_sl, pz_gl_sl_n, pz_gl_sa, pz_gl_sA, pz_gl_sp, pz_ga_si, pz_ga_sl, pz_ga_sa, pz_ga_sa_n, pz_ga_sA, pz_ga_sp, pz_gA_si, pz_gA_sl, pz_gA_sa, pz_gA_sA, pz_gA_sA_n, pz_gA_sp, pz_gp_si, pz_gp_sl, pz_gp_sa, pz_gp_sA, pz_gp_sp, pz_gp_sp_n]) (by intro n; simp (disch := omega) only [pz_gi_si, pz_gi_si_n, pz_gi_sl, pz_gi_sa, pz_gi_sA, pz_gi_sp, pz_gl_si, pz_gl_sl, pz_gl_sl_n, pz_gl_sa, pz_gl_sA, pz_gl_sp, pz_ga_si, pz_ga_sl, pz_ga_sa, pz_ga_sa_n, pz_ga_sA, pz_ga_sp, pz_gA_si, pz_gA_sl, pz_gA_sa, pz_gA_sA, pz_gA_sA_n, pz_gA_sp, pz_gp_si, pz_gp_sl, pz_gp_sa, pz_gp_sA, pz_gp_sp, pz_gp_sp_n])
        (by intro i; rw [pz_m3_gi]; simp (disch := omega) only [pz_gi_si, pz_gi_si_n, pz_gi_sl, pz_gi_sa, pz_gi_sA, pz_gi_sp, pz_gl_si, pz_gl_sl, pz_gl_sl_n, pz_gl_sa, pz_gl_sA, pz_gl_sp, pz_ga_si, pz_ga_sl, pz_ga_sa, pz_ga_sa_n, pz_ga_sA, pz_ga_sp, pz_gA_si, pz_gA_sl, pz_gA_sa, pz_gA_sA, pz_gA_sA_n, pz_gA_sp, pz_gp_si, pz_gp_sl, pz_gp_sa, pz_gp_sA, pz_gp_sp, pz_gp_sp_n]) (by rw [pz_m3_gl]; simp (disch := omega) only [pz_gi_si, pz_gi_si_n, pz_gi_sl, pz_gi_sa, pz_gi_sA, pz_gi_sp, pz_gl_si, pz_gl_sl, pz_gl_sl_n, pz_gl_sa, pz_gl_sA, pz_gl_sp, pz_ga_si, pz_ga_sl, pz_ga_sa, pz_ga_sa_n, pz_ga_sA, pz_ga_sp, pz_gA_si, pz_gA_sl, pz_gA_sa, pz_gA_sA, pz_gA_sA_n, pz_gA_sp, pz_gp_si, pz_gp_sl, pz_gp_sa, pz_gp_sA, pz_gp_sp, pz_gp_sp_n])
        (by intro r a1 a2 a3 a4; rw [pz_m3_ga (by omega) (by omega) (by omega)]; simp (disch := omega) only [pz_gi_si, pz_gi_si_n, pz_gi_sl, pz_gi_sa, pz_gi_sA, pz_gi_sp, pz_gl_si, pz_gl_sl, pz_gl_sl_n, pz_gl_sa, pz_gl_sA, pz_gl_sp, pz_ga_si, pz_ga_sl, pz_ga_sa, pz_ga_sa_n, pz_ga_sA, pz_ga_sp, pz_gA_si, pz_gA_sl, pz_gA_sa, pz_gA_sA, pz_gA_sA_n, pz_gA_sp, pz_gp_si, pz_gp_sl, pz_gp_sa, pz_gp_sA, pz_gp_sp, pz_gp_sp_n])
        (by intro n hn; rw [pz_m3_ga11, pk_un hn, pz_ga_sa_n (by decide), pz_ga_sa, pk_un hn]) (by rw [pz_m3_ga11, pk_us])
        (by intro j hj; rw [pz_m3_ga12, pk_un (by omega)]; simp (disch := omega) only [pz_gi_si, pz_gi_si_n, pz_gi_sl, pz_gi_sa, pz_gi_sA, pz_gi_sp, pz_gl_si, pz_gl_sl, pz_gl_sl_n, pz_gl_sa, pz_gl_sA, pz_gl_sp, pz_ga_si, pz_ga_sl, pz_ga_sa, pz_ga_sa_n, pz_ga_sA, pz_ga_sp, pz_gA_si, pz_gA_sl, pz_gA_sa, pz_gA_sA, pz_gA_sA_n, pz_gA_sp, pz_gp_si, pz_gp_sl, pz_gp_sa, pz_gp_sA, pz_gp_sp, pz_gp_sp_n]) (by rw [pz_m3_ga12]; exact pk_us)
        (by rw [pz_m3_ga (by omega) (by omega) (by omega)]; simp (disch := omega) only [pz_gi_si, pz_gi_si_n, pz_gi_sl, pz_gi_sa, pz_gi_sA, pz_gi_sp, pz_gl_si, pz_gl_sl, pz_gl_sl_n, pz_gl_sa, pz_gl_sA, pz_gl_sp, pz_ga_si, pz_ga_sl, pz_ga_sa, pz_ga_sa_n, pz_ga_sA, pz_ga_sp, pz_gA_si, pz_gA_sl, pz_gA_sa, pz_gA_sA, pz_gA_sA_n, pz_gA_sp, pz_gp_si, pz_gp_sl, pz_gp_sa, pz_gp_sA, pz_gp_sp, pz_gp_sp_n])
        (by
          intro c hc
          rw [pz_m3_ga17]
          by_cases e1 : c = pn k 0
          · subst e1; rw [pk_us, if_pos rfl]
          · rw [pk_un e1, pz_ga_sa, hf c hc, if_neg e1])
        (by rw [pz_m3_gA]; simp (disch := omega) only [pz_gi_si, pz_gi_si_n, pz_gi_sl, pz_gi_sa, pz_gi_sA, pz_gi_sp, pz_gl_si, pz_gl_sl, pz_gl_sl_n, pz_gl_sa, pz_gl_sA, pz_gl_sp, pz_ga_si, pz_ga_sl, pz_ga_sa, pz_ga_sa_n, pz_ga_sA, pz_ga_sp, pz_gA_si, pz_gA_sl, pz_gA_sa, pz_gA_sA, pz_gA_sA_n, pz_gA_sp, pz_gp_si, pz_gp_sl, pz_gp_sa, pz_gp_sA, pz_gp_sp, pz_gp_sp_n]) (by rw [pz_m3_gA]; simp (disch := omega) only [pz_gi_si, pz_gi_si_n, pz_gi_sl, pz_gi_sa, pz_gi_sA, pz_gi_sp, pz_gl_si, pz_gl_sl, pz_gl_sl_n, pz_gl_sa, pz_gl_sA, pz_gl_sp, pz_ga_si, pz_ga_sl, pz_ga_sa, pz_ga_sa_n, pz_ga_sA, pz_ga_sp, pz_gA_si, pz_gA_sl, pz_gA_sa, pz_gA_sA, pz_gA_sA_n, pz_gA_sp, pz_gp_si, pz_gp_sl, pz_gp_sa, pz_gp_sA, pz_gp_sp, pz_gp_sp_n])
      have hl := pr_loop (q := q) (k := k) (N := N) (o7 := zz_ga S 7) (o18 := zz_ga M 18) (o0 := zz_gi M 0) (i := 1) hk (by omega) hN (Nat.le_refl _) hpc hd.1.1 (pr_R_q r1 (by omega)) r2 r3 (by simp (disch := omega) only [pz_gi_si, pz_gi_si_n, pz_gi_sl, pz_gi_sa, pz_gi_sA, pz_gi_sp, pz_gl_si, pz_gl_sl, pz_gl_sl_n, pz_gl_sa, pz_gl_sA, pz_gl_sp, pz_ga_si, pz_ga_sl, pz_ga_sa, pz_ga_sa_n, pz_ga_sA, pz_ga_sp, pz_gA_si, pz_gA_sl, pz_gA_sa, pz_gA_sA, pz_gA_sA_n, pz_gA_sp, pz_gp_si, pz_gp_sl, pz_gp_sa, pz_gp_sA, pz_gp_sp, pz_gp_sp_n]) ⟨by rw [pz_m3_ga (by omega) (by omega) (by omega)]; simp (disch := omega) only [pz_gi_si, pz_gi_si_n, pz_gi_sl, pz_gi_sa, pz_gi_sA, pz_gi_sp, pz_gl_si, pz_gl_sl, pz_gl_sl_n, pz_gl_sa, pz_gl_sA, pz_gl_sp, pz_ga_si, pz_ga_sl, pz_ga_sa, pz_ga_sa_n, pz_ga_sA, pz_ga_sp, pz_gA_si, pz_gA_sl, pz_gA_sa, pz_gA_sA, pz_gA_sA_n, pz_gA_sp, pz_gp_si, pz_gp_sl, pz_gp_sa, pz_gp_sA, pz_gp_sp, pz_gp_sp_n], by rw [pz_m3_gi]; simp (disch := omega) only [pz_gi_si, pz_gi_si_n, pz_gi_sl, pz_gi_sa, pz_gi_sA, pz_gi_sp, pz_gl_si, pz_gl_sl, pz_gl_sl_n, pz_gl_sa, pz_gl_sA, pz_gl_sp, pz_ga_si, pz_ga_sl, pz_ga_sa, pz_ga_sa_n, pz_ga_sA, pz_ga_sp, pz_gA_si, pz_gA_sl, pz_gA_sa, pz_gA_sA, pz_gA_sA_n, pz_gA_sp, pz_gp_si, pz_gp_sl, pz_gp_sa, pz_gp_sA, pz_gp_sp, pz_gp_sp_n]⟩
      refine pz_T_mono hl (fun S' hS => pz_T_mono hS ?_)
      rintro M' ⟨a1, a2, a3⟩
      exact ⟨pr_R_q a1 (by omega), a2, a3⟩
    · simp only [pz_T_ite, pz_T_gd, pz_T_jn1, pz_T_jn2, pz_T_some, pz_T_let, pz_T_b1, pz_T_b2]
      simp (disch := omega) only [pz_in, nI_clampI, pz_nar0, nI_1, pz_ga_sa, pz_saa]
      refine ⟨by omega, hrc (by omega) _ ⟨_, rfl, fun c hc => ?_⟩⟩
      by_cases e1 : c = m
      · subst e1; rw [pk_us]
      · rw [pk_un e1]; exact hf c (by omega)
  · have : zz_ga M 17 = zz_ga (zz_sa (zz_sA (zz_sa M 15 (upd (zz_ga M 15) k 0)) 13 (vp_updL (zz_gA M 13) k 0)) 11 (upd (zz_ga M 11) k 0)) 17 := by
      simp (disch := omega) only [pz_gi_si, pz_gi_si_n, pz_gi_sl, pz_gi_sa, pz_gi_sA, pz_gi_sp, pz_gl_si, pz_gl_sl, pz_gl_sl_n, pz_gl_sa, pz_gl_sA, pz_gl_sp, pz_ga_si, pz_ga_sl, pz_ga_sa, pz_ga_sa_n, pz_ga_sA, pz_ga_sp, pz_gA_si, pz_gA_sl, pz_gA_sa, pz_gA_sA, pz_gA_sA_n, pz_gA_sp, pz_gp_si, pz_gp_sl, pz_gp_sa, pz_gp_sA, pz_gp_sp, pz_gp_sp_n]
    rw [this, pz_sa_id]

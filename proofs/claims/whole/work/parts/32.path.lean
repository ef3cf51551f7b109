/-! The way back -/
def pz_fs (W H D : Nat) (e : pz_Env) (rip : Bool) (d : Nat → Option Nat) (v c b : Nat) : Prop := ∃ n, n < 6 ∧ pz_qd W H D e rip d v c n b ∧ ∀ m b', m < n → ¬ pz_qd W H D e rip d v c m b'
def pz_pth (W H D : Nat) (e : pz_Env) (rip : Bool) (d : Nat → Option Nat) (L : Nat) (pa : Nat → Nat) : Prop := (∀ i, i < L → pa i < W * H * D ∧ pz_can e rip (pa i) = true ∧ ∃ v u, d (pa i) = some v ∧ 0 < v ∧ d (pa (i + 1)) = some u ∧ u < v ∧ pz_fs W H D e rip d v (pa i) (pa (i + 1))) ∧ d (pa L) = some 0 ∧ pa L < W * H * D
theorem pz_bk_fs {W H D : Nat} {e : pz_Env} {rip : Bool} {d : Nat → Option Nat} {v c b : Nat} (h : pz_fs W H D e rip d v c b) {r : Int32} (hr : pz_bk W H D e rip d v c r) : r = nI b := by
  obtain ⟨n, hn, h1, h2⟩ := h
  rcases hr with ⟨n', b', hn', h1', h2', rfl⟩ | ⟨-, h2'⟩
  · have : n = n' := by
      rcases Nat.lt_trichotomy n n' with h | h | h
      · exact absurd h1 (h2' n b h)
      · exact h
      · exact absurd h1' (h2 n' b' h)
    subst this
    have := h1.1
    rw [h1'.1] at this
    cases this
    rfl
  · exact absurd h1 (h2' n b hn)
theorem pz_first {P : Nat → Prop} (n : Nat) (h : P n) : ∃ m, m ≤ n ∧ P m ∧ ∀ j, j < m → ¬ P j := by
  induction n using Nat.strongRecOn with
  | ind n ih =>
    by_cases hx : ∃ j, j < n ∧ P j
    · obtain ⟨j, hj, hp⟩ := hx
      obtain ⟨m, h1, h2, h3⟩ := ih j hj hp
      exact ⟨m, by omega, h2, h3⟩
    · exact ⟨n, Nat.le_refl _, h, fun j hj hp => hx ⟨j, hj, hp⟩⟩
theorem pz_pth_ex {W H D : Nat} {e : pz_Env} (he : pz_ev W H D e) {rip : Bool} {T : Nat → Prop} {d : Nat → Option Nat} {ds : Nat} (hex : ∀ c u, u ≤ ds → (d c = some u ↔ pz_mn (pz_E W H D e rip) T c u)) (hz : ∀ c u, d c = some u → c < (W * H * D)) (hT : ∀ c, T c → d c = some 0) :
    ∀ v c, d c = some v → v ≤ ds → ∃ L pa, pa 0 = c ∧ pz_pth W H D e rip d L pa := by
  have hs := he.1
  intro v
  induction v using Nat.strongRecOn with
  | ind v ih =>
    intro c hc hv
    by_cases h0 : v = 0
    · subst h0
      exact ⟨0, fun _ => c, rfl, fun i hi => by omega, hc, hz c 0 hc⟩
    · have hmn := (hex c v hv).mp hc
      rcases pz_mn_last hmn with ⟨h1, h2⟩ | ⟨b, a, w, hb, hE, hva⟩
      · exact absurd h2 h0
      · have hw := (pz_E_ok he hE).2
        have hcz := (pz_E_ok he hE).1
        obtain ⟨hbz, n', hn', hnb, hcan, rfl⟩ := hE
        have hdb := (hex b a (by omega)).mpr hb
        have hsym := pz_nb_sym hs.1 hs.2.1 hbz hn' hnb
        have hmv := pz_mv_sym (e := e) hs hbz hn' hnb
        have hqd : pz_qd W H D e rip d v c (5 - n') b := ⟨hsym, a, hdb, by rw [hmv]; unfold pz_wt at hva; omega⟩
        obtain ⟨n, hn, ⟨b0, hq0⟩, hmin⟩ := pz_first (P := fun n => ∃ b, pz_qd W H D e rip d v c n b) (5 - n') ⟨b, hqd⟩
        obtain ⟨hnb0, u, hu, huv⟩ := hq0
        obtain ⟨L, pa, hpa0, hpth⟩ := ih u (by omega) b0 hu (by omega)
        refine ⟨L + 1, fun i => if i = 0 then c else pa (i - 1), by simp, ?_, ?_, ?_⟩
        · intro i hi
          by_cases e0 : i = 0
          · subst e0
            simp only [if_true, Nat.zero_add, Nat.one_ne_zero, if_false, Nat.sub_self, hpa0]
            exact ⟨hcz, hcan, v, u, hc, by omega, hu, by omega, n, by omega, ⟨hnb0, u, hu, huv⟩, fun m b' hm hq => hmin m hm ⟨b', hq⟩⟩
          · have := hpth.1 (i - 1) (by omega)
            simp only [e0, show ¬ i + 1 = 0 by omega, if_false]
            rw [show i + 1 - 1 = i - 1 + 1 by omega]
            exact this
        · simp only [show ¬ L + 1 = 0 by omega, if_false, Nat.add_sub_cancel]
          exact hpth.2.1
        · simp only [show ¬ L + 1 = 0 by omega, if_false, Nat.add_sub_cancel]
          exact hpth.2.2
theorem pz_pth_dec {W H D : Nat} {e : pz_Env} {rip : Bool} {d : Nat → Option Nat} {L : Nat} {pa : Nat → Nat} (h : pz_pth W H D e rip d L pa) : ∀ i j, i < j → j ≤ L → ∃ v u, d (pa i) = some v ∧ d (pa j) = some u ∧ u < v := by
  intro i j hij
  induction j with
  | zero => omega
  | succ j ih =>
    intro hj
    obtain ⟨-, -, v, u, h1, -, h2, h3, -⟩ := h.1 j (by omega)
    by_cases e1 : i = j
    · subst e1; exact ⟨v, u, h1, h2, h3⟩
    · obtain ⟨v', u', h1', h2', h3'⟩ := ih (by omega) (by omega)
      rw [h1] at h2'
      cases h2'
      exact ⟨v', u, h1', h2, by omega⟩
theorem pz_pth_inj {W H D : Nat} {e : pz_Env} {rip : Bool} {d : Nat → Option Nat} {L : Nat} {pa : Nat → Nat} (h : pz_pth W H D e rip d L pa) {i j : Nat} (hi : i ≤ L) (hj : j ≤ L) (he : pa i = pa j) : i = j := by
  rcases Nat.lt_trichotomy i j with hl | hl | hl
  · obtain ⟨v, u, h1, h2, h3⟩ := pz_pth_dec h i j hl hj
    rw [he, h2] at h1
    cases h1
    omega
  · exact hl
  · obtain ⟨v, u, h1, h2, h3⟩ := pz_pth_dec h j i hl hi
    rw [← he, h2] at h1
    cases h1
    omega
theorem pz_pth_lt {W H D : Nat} {e : pz_Env} {rip : Bool} {d : Nat → Option Nat} {L : Nat} {pa : Nat → Nat} (h : pz_pth W H D e rip d L pa) {i : Nat} (hi : i ≤ L) : pa i < (W * H * D) := by
  by_cases e1 : i = L
  · subst e1; exact h.2.2
  · exact (h.1 i (by omega)).1
/-- so many different ones have so much room -/
noncomputable def pz_memb (f : Nat → Nat) (m c : Nat) : Bool := @decide (∃ j, j < m ∧ f j = c) (Classical.propDecidable _)
theorem pz_memb_t {f : Nat → Nat} {m c : Nat} : pz_memb f m c = true ↔ ∃ j, j < m ∧ f j = c := by
  unfold pz_memb
  exact @decide_eq_true_iff _ (Classical.propDecidable _)
theorem pz_memb_f {f : Nat → Nat} {m c : Nat} : pz_memb f m c = false ↔ ¬ ∃ j, j < m ∧ f j = c := by
  rw [← pz_memb_t]
  simp
theorem pz_memb_cnt {f : Nat → Nat} {z m : Nat} (hf : ∀ i, i < m → f i < z) (hi : ∀ i j, i < m → j < m → f i = f j → i = j) : pz_cnt (pz_memb f m) z = m := by
  induction m with
  | zero =>
    have h1 : pz_cnt (pz_memb f 0) z = pz_cnt (fun _ => false) z := pz_cnt_congr (fun c _ => pz_memb_f.mpr (by rintro ⟨j, hj, -⟩; omega))
    have h2 : ∀ m, pz_cnt (fun _ => false) m = 0 := by
      intro m
      induction m with
      | zero => rfl
      | succ m ih => simp only [pz_cnt, ih]; rfl
    rw [h1, h2]
  | succ m ih =>
    have h1 := ih (fun i h => hf i (by omega)) (fun i j h h' => hi i j (by omega) (by omega))
    have h2 := pz_cnt_one (P := pz_memb f m) (Q := pz_memb f (m + 1)) (n := z) (c0 := f m) (by
      intro c hc hne
      cases hq : pz_memb f m c
      · rw [pz_memb_f] at hq ⊢
        rintro ⟨j, hj, hjc⟩
        by_cases e1 : j = m
        · subst e1; exact hne hjc.symm
        · exact hq ⟨j, by omega, hjc⟩
      · rw [pz_memb_t] at hq ⊢
        obtain ⟨j, hj, hjc⟩ := hq
        exact ⟨j, by omega, hjc⟩) (hf m (by omega)) (by
      rw [pz_memb_f]
      rintro ⟨j, hj, hjc⟩
      have := hi j m (by omega) (by omega) hjc
      omega) (pz_memb_t.mpr ⟨m, by omega, rfl⟩)
    rw [h2, h1]
theorem pz_room {f : Nat → Nat} {z m : Nat} (hf : ∀ i, i < m → f i < z) (hi : ∀ i j, i < m → j < m → f i = f j → i = j) : m ≤ z := by
  have := pz_memb_cnt hf hi
  have := pz_cnt_le (pz_memb f m) z
  omega
def pz_cat (ts : Nat) (tr pa : Nat → Nat) (i : Nat) : Nat := if i < ts then tr i else pa (i - ts)
theorem pz_cat_l {ts : Nat} {tr pa : Nat → Nat} {i : Nat} (h : i < ts) : pz_cat ts tr pa i = tr i := if_pos h
theorem pz_cat_r {ts : Nat} {tr pa : Nat → Nat} {i : Nat} : pz_cat ts tr pa (ts + i) = pa i := by
  unfold pz_cat
  rw [if_neg (by omega)]
  congr 1
  omega
/-- the holders when nets are laid open -/
def pz_rp (x : Int32) (n : Nat) (hol pin : Nat → Int32) (c : Nat) : Int32 := if hol c ≠ -1 ∧ (hol c).toNatClampNeg < n ∧ bt x (hol c).toNatClampNeg = true ∧ pin c = 0 then -1 else hol c
theorem pz_rp_0 {x : Int32} {hol pin : Nat → Int32} {c : Nat} : pz_rp x 0 hol pin c = hol c := by
  unfold pz_rp
  rw [if_neg]
  omega
theorem pz_rp_f {x : Int32} {hol pin : Nat → Int32} {c n : Nat} (h : bt x n = false) : pz_rp x (n + 1) hol pin c = pz_rp x n hol pin c := by
  unfold pz_rp
  by_cases e1 : (hol c).toNatClampNeg = n
  · rw [e1, h]
    simp
  · have : ((hol c).toNatClampNeg < n + 1) = ((hol c).toNatClampNeg < n) := by
      apply propext; omega
    simp only [this]
theorem pz_rp_t {x : Int32} {hol pin : Nat → Int32} {c n : Nat} (hn : n < 32) (hc : hol c = -1 ∨ ∃ o, o < 32 ∧ hol c = nI o) (h : bt x n = true) : pz_rp x (n + 1) hol pin c = if pz_rp x n hol pin c = nI n ∧ pin c = 0 then -1 else pz_rp x n hol pin c := by
  unfold pz_rp
  rcases hc with hc | ⟨o, ho, hc⟩
  · simp only [hc, ne_eq, not_true, false_and, if_false, pz_m1n (show n < 2147483648 by omega)]
  · have h1 : (hol c).toNatClampNeg = o := by rw [hc, nI_clampI (by omega)]
    have h2 : hol c ≠ -1 := by rw [hc]; intro q; exact (pz_nm1 (show o < 2147483648 by omega)).mp q
    rw [h1]
    by_cases hp : pin c = 0
    · by_cases e1 : o = n
      · subst e1
        rw [hc] at h2
        simp [h2, h, hp, hc]
      · by_cases e2 : o < n
        · by_cases e3 : bt x o = true
          · simp only [h2, ne_eq, not_false_iff, true_and, hp, and_true, e2, e3, show o < n + 1 by omega, if_true, pz_m1n (show n < 2147483648 by omega), if_false]
          · have e3' : bt x o = false := by simpa using e3
            have : (nI o = nI n) = False := by rw [pz_eqI (by omega) (by omega)]; exact eq_false e1
            simp only [e3', Bool.false_eq_true, and_false, false_and, if_false, hc, this]
        · have : (nI o = nI n) = False := by rw [pz_eqI (by omega) (by omega)]; exact eq_false e1
          simp only [e2, show ¬ o < n + 1 by omega, false_and, and_false, if_false, hc, this]
    · simp only [hp, and_false, if_false]

/-! QUESTIONS: what both sides answer of the hours, of torn seams -/
section HHD
variable {σ τ : Int → Int} {M M1 M2 : zM} {G Go : zG} {z v w k B b m : Int}
theorem m_of {c : Int} (k1 : 0 ≤ k) (k2 : k < 10) (c1 : 0 ≤ c) (c2 : c < 9) : fM_of M (hI k) (hI c) = some (hI (hm M (38 + 9 * k + c))) := by
  unfold fM_of fM_spt
  rw [show (38 : Int32) = hI 38 from rfl, show (9 : Int32) = hI 9 from rfl, hI_mul, hI_add, hI_add, mrd (by omega) (by omega), bnd_s]
theorem m_its {c : Int} (k1 : 0 ≤ k) (k2 : k < 8) (c1 : 0 ≤ c) (c2 : c < 4) : fM_its M (hI k) (hI c) = some (hI (hm M (128 + 4 * k + c))) := by
  unfold fM_its fM_lbl
  rw [show (128 : Int32) = hI 128 from rfl, show (4 : Int32) = hI 4 from rfl, hI_mul, hI_add, hI_add, mrd (by omega) (by omega), bnd_s]
theorem m_trav (k1 : 0 ≤ k) (k2 : k < 10) : fM_travels M (hI k) = some (decide (hm M (38 + 9 * k + 2) = 1)) := by
  unfold fM_travels
  have hr := hm_r (M := M) (w := 38 + 9 * k + 2)
  rw [show (2 : Int32) = hI 2 from rfl, m_of k1 k2 (by omega) (by omega), bnd_s, show (1 : Int32) = hI 1 from rfl, ieq hr.1 hr.2 (by omega) (by omega)]
  by_cases h : hm M (38 + 9 * k + 2) = 1
  · rw [if_pos h, decide_eq_true h]
  · rw [if_neg h, decide_eq_false h]
/-- longitude and local hours -/
def lo (σ : Int → Int) (b m : Int) : Int := if m < σ (5 + b) then m else m - 360
def lh (σ : Int → Int) (b m : Int) : Int := σ 4 + lo σ b m / 15
theorem lo_r (m1 : 0 ≤ m) (m2 : m < 360) : -360 ≤ lo σ b m ∧ lo σ b m < 360 := by
  unfold lo
  split <;> omega
theorem lh_r (h : hV B σ) (hB : B < 1000000000) (m1 : 0 ≤ m) (m2 : m < 360) : -24 ≤ lh σ b m ∧ lh σ b m < 1000000024 := by
  have h4 := h.1.2.2.2
  have hl := lo_r (σ := σ) (b := b) m1 m2
  unfold lh
  omega
theorem m_lon (h : hV B (hm M)) (b1 : 0 ≤ b) (b2 : b < 9) (m1 : 0 ≤ m) (m2 : m < 360) : fM_longitudeOf M (hI b) (hI m) = some (hI (lo (hm M) b m)) := by
  unfold fM_longitudeOf lo
  have hr := hm_r (M := M) (w := 5 + b)
  rw [show (5 : Int32) = hI 5 from rfl, hI_add, mrd (by omega) (by omega), bnd_s, ilt (by omega) (by omega) hr.1 hr.2, show (360 : Int32) = hI 360 from rfl, hI_sub]
  split <;> rfl
theorem m_lh (h : hV B (hm M)) (hB : B < 1000000000) (b1 : 0 ≤ b) (b2 : b < 9) (m1 : 0 ≤ m) (m2 : m < 360) : fM_localHours M (hI b) (hI m) = some (hI (lh (hm M) b m)) := by
  unfold fM_localHours lh
  have hl := lo_r (σ := hm M) (b := b) m1 m2
  rw [m_lon h b1 b2 m1 m2, bnd_s, show (15 : Int32) = hI 15 from rfl, fM_fl (Or.inl rfl) (by omega) (by omega), bnd_s, m_4, hI_add]
theorem m_ld (h : hV B (hm M)) (hB : B < 1000000000) (b1 : 0 ≤ b) (b2 : b < 9) (m1 : 0 ≤ m) (m2 : m < 360) : fM_localDay M (hI b) (hI m) = some (hI (lh (hm M) b m / 24)) := by
  unfold fM_localDay
  have hl := lh_r (b := b) h hB m1 m2
  rw [m_lh h hB b1 b2 m1 m2, bnd_s, show (24 : Int32) = hI 24 from rfl, fM_fl (Or.inr rfl) (by omega) (by omega), bnd_s]
theorem m_lhr (h : hV B (hm M)) (hB : B < 1000000000) (b1 : 0 ≤ b) (b2 : b < 9) (m1 : 0 ≤ m) (m2 : m < 360) : fM_localHour M (hI b) (hI m) = some (hI (lh (hm M) b m % 24)) := by
  unfold fM_localHour
  rw [m_lh h hB b1 b2 m1 m2, bnd_s, m_ld h hB b1 b2 m1 m2, bnd_s, show (24 : Int32) = hI 24 from rfl, hI_mul, hI_sub]
  congr 2
  omega
theorem g_lon (hr : hR G σ) (h : hV B σ) (b1 : 0 ≤ b) (b2 : b < 9) (m1 : 0 ≤ m) (m2 : m < 360) : fG_longitudeIn G (hI b) (hI m) = some (hI (lo σ b m)) := by
  unfold fG_longitudeIn lo
  have hq := h.2.2.2.2.2.2 (5 + b)
  rw [r_hem hr b1 b2, bnd_s, ilt (by omega) (by omega) hq.1 hq.2, show (360 : Int32) = hI 360 from rfl, hI_sub]
  split <;> rfl
theorem g_lh (hr : hR G σ) (h : hV B σ) (b1 : 0 ≤ b) (b2 : b < 9) (m1 : 0 ≤ m) (m2 : m < 360) : fG_localHours G (hI b) (hI m) = some (hI (lh σ b m)) := by
  unfold fG_localHours lh
  have hl := lo_r (σ := σ) (b := b) m1 m2
  rw [g_lon hr h b1 b2 m1 m2, bnd_s, show (15 : Int32) = hI 15 from rfl, fJ_div (Or.inl rfl) (by omega) (by omega), bnd_s, r_clock hr, hI_add]
theorem g_ld (hr : hR G σ) (h : hV B σ) (hB : B < 1000000000) (b1 : 0 ≤ b) (b2 : b < 9) (m1 : 0 ≤ m) (m2 : m < 360) : fG_localDay G (hI b) (hI m) = some (hI (lh σ b m / 24)) := by
  unfold fG_localDay
  have hl := lh_r (b := b) h hB m1 m2
  rw [g_lh hr h b1 b2 m1 m2, bnd_s, show (24 : Int32) = hI 24 from rfl, fJ_div (Or.inr rfl) (by omega) (by omega), bnd_s]
theorem g_lhr (hr : hR G σ) (h : hV B σ) (hB : B < 1000000000) (b1 : 0 ≤ b) (b2 : b < 9) (m1 : 0 ≤ m) (m2 : m < 360) : fG_localHour G (hI b) (hI m) = some (hI (lh σ b m % 24)) := by
  unfold fG_localHour
  have hl := lh_r (b := b) h hB m1 m2
  rw [g_lh hr h b1 b2 m1 m2, bnd_s, show (24 : Int32) = hI 24 from rfl, fJ_mod (Or.inr rfl) (by omega) (by omega), bnd_s]
theorem m_hour (h : hV B (hm M)) (hB : B < 1000000000) (k1 : 0 ≤ k) (k2 : k < hm M 1) : fM_hourNow M (hI k) = some (hI (lh (hm M) (hm M (38 + 9 * k + 3)) (hm M (38 + 9 * k + 4)) % 24)) := by
  have h1 := h.1.2.1
  have hs := h.2.2.2.1 k k1 k2
  unfold hVs at hs
  unfold fM_hourNow
  rw [show (3 : Int32) = hI 3 from rfl, m_of k1 (by omega) (by omega) (by omega), bnd_s, show (4 : Int32) = hI 4 from rfl, m_of k1 (by omega) (by omega) (by omega), bnd_s, m_lhr h hB (by omega) (by omega) (by omega) (by omega), bnd_s]
theorem m_dayn (h : hV B (hm M)) (hB : B < 1000000000) (k1 : 0 ≤ k) (k2 : k < hm M 1) : fM_dayNow M (hI k) = some (hI (lh (hm M) (hm M (38 + 9 * k + 3)) (hm M (38 + 9 * k + 4)) / 24)) := by
  have h1 := h.1.2.1
  have hs := h.2.2.2.1 k k1 k2
  unfold hVs at hs
  unfold fM_dayNow
  rw [show (3 : Int32) = hI 3 from rfl, m_of k1 (by omega) (by omega) (by omega), bnd_s, show (4 : Int32) = hI 4 from rfl, m_of k1 (by omega) (by omega) (by omega), bnd_s, m_ld h hB (by omega) (by omega) (by omega) (by omega), bnd_s]
/-- seams -/
theorem bg_mono (h : hV B σ) {j k : Int} (j1 : 0 ≤ j) (jk : j < k) (k2 : k ≤ σ 0) : bg σ j < bg σ k := by
  obtain ⟨n, hn⟩ : ∃ n : Nat, k = j + 1 + n := ⟨(k - j - 1).toNat, by omega⟩
  subst hn
  clear jk
  induction n with
  | zero =>
    have := (h.2.2.1 j j1 (by omega)).1
    rw [show j + 1 + ((0 : Nat) : Int) = j + 1 by omega, bg_s j1]
    omega
  | succ n ih =>
    have := (h.2.2.1 (j + 1 + n) (by omega) (by omega)).1
    have := ih (by omega)
    rw [show j + 1 + ((n + 1 : Nat) : Int) = (j + 1 + n) + 1 by omega, bg_s (by omega)]
    omega
theorem bg_inj (h : hV B σ) {j k : Int} (j1 : 0 ≤ j) (j2 : j < σ 0) (k1 : 0 ≤ k) (k2 : k < σ 0) (e : bg σ j = bg σ k) : j = k := by
  rcases Int.lt_trichotomy j k with h1 | h1 | h1
  · have := bg_mono h j1 h1 (by omega); omega
  · exact h1
  · have := bg_mono h k1 h1 (by omega); omega
theorem bg_r (h : hV B σ) (k1 : 0 ≤ k) (k2 : k < σ 0) : 0 ≤ bg σ k ∧ bg σ k < 360 ∧ bg σ (k + 1) ≤ 360 := by
  have h1 := h.2.2.1 k k1 k2
  have h2 := bg_s (σ := σ) k1
  have h3 : 0 ≤ bg σ k := by
    by_cases hk : k = 0
    · subst hk; rw [bg_0]; omega
    · have := bg_mono h (j := 0) (k := k) (by omega) (by omega) (by omega)
      rw [bg_0] at this
      omega
  omega
def tA (σ : Int → Int) (m : Int) : Prop := ∃ k : Int, 0 ≤ k ∧ k < σ 0 ∧ bg σ k = m ∧ σ (26 + k) = 0
theorem g_torn (hr : hR G σ) (k1 : 0 ≤ k) (k2 : k < σ 0) (k3 : k < 12) (h : hV B σ) : fC_isTorn G (hI k) = some (decide (σ (26 + k) = 0)) := by
  unfold fC_isTorn
  have hq := h.2.2.2.2.2.2 (26 + k)
  rw [r_stitch hr k1 k2 k3, bnd_s, show (0 : Int32) = hI 0 from rfl, ieq hq.1 hq.2 (by omega) (by omega)]
  by_cases e : σ (26 + k) = 0
  · rw [if_pos e, decide_eq_true e]
  · rw [if_neg e, decide_eq_false e]
theorem m_torn (k1 : 0 ≤ k) (k3 : k < 12) : fM_isTornSeam M (hI k) = some (decide (hm M (26 + k) = 0)) := by
  unfold fM_isTornSeam
  have hq := hm_r (M := M) (w := 26 + k)
  rw [show (26 : Int32) = hI 26 from rfl, hI_add, mrd (by omega) (by omega), bnd_s, show (0 : Int32) = hI 0 from rfl, ieq hq.1 hq.2 (by omega) (by omega)]
  by_cases e : hm M (26 + k) = 0
  · rw [if_pos e, decide_eq_true e]
  · rw [if_neg e, decide_eq_false e]
theorem g_tornAt (hr : hR G σ) (h : hV B σ) (m1 : -2147483648 ≤ m) (m2 : m < 2147483648) : ∃ t, fC_isTornAt G (hI m) = some t ∧ (t = true ↔ tA σ m) := by
  have h0 := h.1.1
  unfold fC_isTornAt
  refine it_one (σ 0).toNat (fun i s => s = hI i ∧ ∀ k : Int, 0 ≤ k → k < i → ¬ (bg σ k = m ∧ σ (26 + k) = 0)) (fun t => t = true ↔ tA σ m) (by omega) ⟨rfl, fun k h1 h2 => by omega⟩ ?_
  intro i s hi hP
  obtain ⟨rfl, hP⟩ := hP
  unfold fC_isTornAt_b2
  rw [r_gores hr, ilt (by omega) (by omega) (by omega) (by omega), show (0 : Int32) = hI 0 from rfl, show (1 : Int32) = hI 1 from rfl, hI_add]
  by_cases hc : (i : Int) < σ 0
  · have hb := bg_r h (k := i) (by omega) hc
    have hq := h.2.2.2.2.2.2 (26 + i)
    rw [if_pos hc, r_begin hr (by omega) hc (by omega), bnd_s, ieq (by omega) (by omega) m1 m2, r_stitch hr (by omega) hc (by omega), bnd_s, ieq hq.1 hq.2 (by omega) (by omega)]
    by_cases e1 : bg σ i = m
    · rw [if_pos e1]
      by_cases e2 : σ (26 + i) = 0
      · rw [if_pos e2]
        exact Or.inr ⟨true, rfl, ⟨fun _ => ⟨i, by omega, hc, e1, e2⟩, fun _ => rfl⟩⟩
      · rw [if_neg e2]
        refine Or.inl ⟨by omega, _, rfl, rfl, fun k h1 h2 => ?_⟩
        by_cases e : k = i
        · subst e; exact fun z => e2 z.2
        · exact hP k h1 (by omega)
    · rw [if_neg e1]
      refine Or.inl ⟨by omega, _, rfl, rfl, fun k h1 h2 => ?_⟩
      by_cases e : k = i
      · subst e; exact fun z => e1 z.1
      · exact hP k h1 (by omega)
  · rw [if_neg hc]
    refine Or.inr ⟨false, rfl, ⟨fun z => Bool.noConfusion z, fun ⟨k, h1, h2, h3, h4⟩ => absurd ⟨h3, h4⟩ (hP k h1 (by omega))⟩⟩
theorem m_seamAt (h : hV B (hm M)) (m1 : -2147483648 ≤ m) (m2 : m < 2147483648) : ∃ t : Int, fM_seamAt M (hI m) = some (hI t) ∧ ((0 ≤ t ∧ t < hm M 0 ∧ bg (hm M) t = m) ∨ (t = -1 ∧ ∀ k : Int, 0 ≤ k → k < hm M 0 → bg (hm M) k ≠ m)) := by
  have h0 := h.1.1
  have key : ∃ r, iter (fun s => fM_seamAt_b4 M (hI m) s.1 s.2) fu (hI 0, hI 0) = some r ∧ ∃ t : Int, r = hI t ∧ ((0 ≤ t ∧ t < hm M 0 ∧ bg (hm M) t = m) ∨ (t = -1 ∧ ∀ k : Int, 0 ≤ k → k < hm M 0 → bg (hm M) k ≠ m)) := by
    refine it_one (hm M 0).toNat (fun i s => s = (hI (bg (hm M) i), hI i) ∧ ∀ k : Int, 0 ≤ k → k < i → bg (hm M) k ≠ m) _ (by omega) ⟨rfl, fun k h1 h2 => by omega⟩ ?_
    intro i s hi hP
    obtain ⟨rfl, hP⟩ := hP
    unfold fM_seamAt_b4
    dsimp only
    rw [m_0, ilt (by omega) (by omega) (by omega) (by omega), show (14 : Int32) = hI 14 from rfl, show (1 : Int32) = hI 1 from rfl, hI_neg, hI_add]
    by_cases hc : (i : Int) < hm M 0
    · have hb := bg_r h (k := i) (by omega) hc
      rw [if_pos hc, ieq (by omega) (by omega) m1 m2]
      by_cases e1 : bg (hm M) i = m
      · rw [if_pos e1]
        exact Or.inr ⟨_, rfl, i, rfl, Or.inl ⟨by omega, hc, e1⟩⟩
      · rw [if_neg e1, mrd (by omega) (by omega), bnd_s, hI_add, ← bg_s (by omega), hI_add]
        refine Or.inl ⟨by omega, _, rfl, rfl, fun k h1 h2 => ?_⟩
        by_cases e : k = i
        · subst e; exact e1
        · exact hP k h1 (by omega)
    · rw [if_neg hc]
      exact Or.inr ⟨_, rfl, -1, rfl, Or.inr ⟨rfl, fun k h1 h2 => hP k h1 (by omega)⟩⟩
  obtain ⟨r, hr, t, rfl, ht⟩ := key
  exact ⟨t, hr, ht⟩
theorem m_tornAt (h : hV B (hm M)) (m1 : -2147483648 ≤ m) (m2 : m < 2147483648) : ∃ t, fM_isTornAt M (hI m) = some t ∧ (t = true ↔ tA (hm M) m) := by
  have h0 := h.1.1
  unfold fM_isTornAt
  obtain ⟨t, e, ht⟩ := m_seamAt h m1 m2
  rw [e, bnd_s, show (1 : Int32) = hI 1 from rfl, hI_neg]
  rcases ht with ⟨t1, t2, t3⟩ | ⟨rfl, ht⟩
  · rw [ieq (by omega) (by omega) (by omega) (by omega), if_neg (by omega), m_torn t1 (by omega), bnd_s]
    by_cases e2 : hm M (26 + t) = 0
    · rw [decide_eq_true e2, if_pos rfl]
      exact ⟨true, rfl, ⟨fun _ => ⟨t, t1, t2, t3, e2⟩, fun _ => rfl⟩⟩
    · rw [decide_eq_false e2, if_neg (by decide)]
      refine ⟨false, rfl, ⟨fun z => Bool.noConfusion z, fun ⟨k, k1, k2, k3, k4⟩ => ?_⟩⟩
      have := bg_inj h k1 k2 t1 t2 (k3.trans t3.symm)
      subst this
      exact absurd k4 e2
  · rw [if_pos rfl]
    exact ⟨false, rfl, ⟨fun z => Bool.noConfusion z, fun ⟨k, k1, k2, k3, k4⟩ => absurd k3 (ht k k1 k2)⟩⟩
theorem t_tornAt (hr : hR G (hm M)) (h : hV B (hm M)) (m1 : -2147483648 ≤ m) (m2 : m < 2147483648) : ∃ t, fC_isTornAt G (hI m) = some t ∧ fM_isTornAt M (hI m) = some t ∧ (t = true ↔ tA (hm M) m) := by
  obtain ⟨t, e1, ht⟩ := g_tornAt hr h m1 m2
  obtain ⟨u, e2, hu0⟩ := m_tornAt h m1 m2
  have : u = t := by
    rw [Bool.eq_iff_iff, ht, hu0]
  subst this
  exact ⟨u, e1, e2, hu0⟩
end HHD

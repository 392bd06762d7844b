/-! SEAMS THAT WEAR, LABELS THAT TEAR -/
section HHF
variable {σ τ : Int → Int} {M M1 M2 : zM} {G Go : zG} {z v w k B b m d : Int}
def hC (G : zG) (σ : Int → Int) : Prop := gF G 1 0 = hI (σ 0) ∧ ∀ k : Int, 0 ≤ k → k < σ 0 → hRc G σ k
theorem hR_C (h : hR G σ) : hC G σ := ⟨h.1.1, h.2.2.1⟩
theorem c_gores (h : hC G σ) : gF G 1 0 = hI (σ 0) := h.1
theorem c_width (h : hC G σ) (h1 : 0 ≤ k) (h2 : k < σ 0) (h3 : k < 12) : rd 12 (gA G 2) (hI k) = some (hI (σ (14 + k))) := by
  rw [rd_hI h1 (by omega) (by omega), (h.2 k h1 h2).1]
theorem c_begin (h : hC G σ) (h1 : 0 ≤ k) (h2 : k < σ 0) (h3 : k < 12) : rd 12 (gA G 3) (hI k) = some (hI (bg σ k)) := by
  rw [rd_hI h1 (by omega) (by omega), (h.2 k h1 h2).2.1]
theorem c_stitch (h : hC G σ) (h1 : 0 ≤ k) (h2 : k < σ 0) (h3 : k < 12) : rd 12 (gA G 4) (hI k) = some (hI (σ (26 + k))) := by
  rw [rd_hI h1 (by omega) (by omega), (h.2 k h1 h2).2.2]
theorem c_torn (hr : hC G σ) (k1 : 0 ≤ k) (k2 : k < σ 0) (k3 : k < 12) (h : hV B σ) : fC_isTorn G (hI k) = some (decide (σ (26 + k) = 0)) := by
  unfold fC_isTorn
  have hq := h.2.2.2.2.2.2 (26 + k)
  rw [c_stitch hr k1 k2 k3, bnd_s, show (0 : Int32) = hI 0 from rfl, ieq hq.1 hq.2 (by omega) (by omega)]
  by_cases e : σ (26 + k) = 0
  · rw [if_pos e, decide_eq_true e]
  · rw [if_neg e, decide_eq_false e]
theorem hC_stitch (b0 : σ 0 ≤ 12) (k1 : 0 ≤ k) (k2 : k < 12) (h : hC G σ) : hC (wgA G 4 (upd (gA G 4) k.toNat (hI v))) (hu σ (26 + k) v) := by
  refine ⟨by rw [hu_ne (by omega)]; exact h.1, fun j h1 h2 => ?_⟩
  rw [hu_ne (by omega)] at h2
  have h3 := h.2 j h1 h2
  unfold hRc at h3 ⊢
  rw [gA_wA, gA_wA, gA_wA, if_neg (by decide), if_neg (by decide), if_pos rfl, hu_ne (show 14 + j ≠ 26 + k by omega), bg_u (by omega), upd_w]
  refine ⟨h3.1, h3.2.1, ?_⟩
  by_cases hb : j = k
  · subst hb; rw [if_pos rfl, hu_same, hI_hw]
  · rw [if_neg (by omega), hu_ne (by omega)]; exact h3.2.2
theorem hC_c (h : hC G σ) (e : ∀ w : Int, w = 0 ∨ (14 ≤ w ∧ w < 38) → τ w = σ w) (b0 : σ 0 ≤ 12) : hC G τ := by
  refine ⟨by rw [e 0 (Or.inl rfl)]; exact h.1, fun j h1 h2 => ?_⟩
  rw [e 0 (Or.inl rfl)] at h2
  have h3 := h.2 j h1 h2
  unfold hRc at h3 ⊢
  rw [e (14 + j) (by omega), e (26 + j) (by omega), bg_c (σ := τ) (τ := σ) (fun w h1 h2 => e w (by omega))]
  exact h3
theorem m_begin (h : hV B (hm M)) (k1 : 0 ≤ k) (k2 : k ≤ hm M 0) : fM_beginning M (hI k) = some (hI (bg (hm M) k)) := by
  have h0 := h.1.1
  have key : ∃ r, iter (fun s => fM_beginning_b4 M (hI k) s.1 s.2) fu (hI 0, hI 0) = some r ∧ r = hI (bg (hm M) k) := by
    refine it_one k.toNat (fun i s => s = (hI (bg (hm M) i), hI i)) _ (by omega) rfl ?_
    rintro i s hi rfl
    unfold fM_beginning_b4
    dsimp only
    rw [ilt (by omega) (by omega) (by omega) (by omega), show (14 : Int32) = hI 14 from rfl, show (1 : Int32) = hI 1 from rfl, hI_add]
    by_cases hc : (i : Int) < k
    · rw [if_pos hc, mrd (by omega) (by omega), bnd_s, hI_add, ← bg_s (by omega), hI_add]
      exact Or.inl ⟨by omega, _, rfl, rfl⟩
    · rw [if_neg hc]
      have : (i : Int) = k := by omega
      rw [this]
      exact Or.inr ⟨_, rfl, rfl⟩
  obtain ⟨r, hr, rfl⟩ := key
  exact hr
/-- labels that cross -/
def cr (σ : Int → Int) (k m : Int) : Prop := σ (128 + 4 * k + 3) = 0 ∧ σ (128 + 4 * k + 1) < m ∧ m ≤ σ (128 + 4 * k + 1) + σ (128 + 4 * k + 2) - 1
theorem isIn_d {a b c : Int} (a1 : -2147483648 ≤ a) (a2 : a < 2147483648) (b1 : -2147483648 ≤ b) (b2 : b < 2147483648) (c1 : -2147483648 ≤ c) (c2 : c < 2147483648) : fM_isIn (hI a).toInt64 (hI b).toInt64 (hI c).toInt64 = decide (b ≤ a ∧ a ≤ c) := by
  unfold fM_isIn
  rw [hI_long a1 a2, hI_long b1 b2, hI_long c1 c2, iLlt (by omega) (by omega) (by omega) (by omega), iLlt (by omega) (by omega) (by omega) (by omega)]
  by_cases h1 : a < b
  · rw [if_pos h1, decide_eq_false (by omega)]
  · rw [if_neg h1]
    by_cases h2 : c < a
    · rw [if_pos h2, decide_eq_false (by omega)]
    · rw [if_neg h2, decide_eq_true (by omega)]
theorem isIn_e {a b c : Int} (a1 : -2147483648 ≤ a) (a2 : a < 2147483648) (b1 : -2147483648 ≤ b) (b2 : b < 2147483648) (c1 : -2147483648 ≤ c) (c2 : c < 2147483648) : fM_isIn (hI a).toInt64 (hL b) (hL c) = decide (b ≤ a ∧ a ≤ c) := by
  rw [← hI_long b1 b2, ← hI_long c1 c2]
  exact isIn_d a1 a2 b1 b2 c1 c2
theorem g_cross (hr : hR G σ) (h : hV B σ) (k1 : 0 ≤ k) (k2 : k < σ 2) (m1 : -2147483648 ≤ m) (m2 : m < 2147483648) : ∃ t, fL_crosses G k.toNat (hI m) = t ∧ (t = true ↔ cr σ k m) := by
  have hl := h.2.2.2.2.1 k k1 k2
  unfold hVl at hl
  have hq := h.2.2.2.2.2.2 (128 + 4 * k + 2)
  unfold fL_crosses cr
  rw [r_lt hr k1 k2, r_l1 hr k1 k2, r_l2 hr k1 k2, ilt (by omega) (by omega) m1 m2, ilt (by omega) (by omega) m1 m2]
  by_cases c1 : σ (128 + 4 * k + 3) = 1
  · rw [decide_eq_true c1, if_pos rfl]
    exact ⟨false, rfl, ⟨fun z => Bool.noConfusion z, fun z => by omega⟩⟩
  · rw [decide_eq_false c1, if_neg (by decide)]
    by_cases c2 : σ (128 + 4 * k + 1) < m
    · rw [if_pos c2]
      by_cases c3 : σ (128 + 4 * k + 1) + σ (128 + 4 * k + 2) - 1 < m
      · rw [if_pos c3]
        exact ⟨false, rfl, ⟨fun z => Bool.noConfusion z, fun z => by omega⟩⟩
      · rw [if_neg c3]
        exact ⟨true, rfl, ⟨fun _ => by omega, fun _ => rfl⟩⟩
    · rw [if_neg c2]
      exact ⟨false, rfl, ⟨fun z => Bool.noConfusion z, fun z => by omega⟩⟩
theorem m_last (k1 : 0 ≤ k) (k2 : k < 8) : fM_lastOf M (hI k) = some (hI (hm M (128 + 4 * k + 1) + hm M (128 + 4 * k + 2) - 1)) := by
  unfold fM_lastOf
  rw [show (1 : Int32) = hI 1 from rfl, show (2 : Int32) = hI 2 from rfl, m_its k1 k2 (by omega) (by omega), bnd_s, m_its k1 k2 (by omega) (by omega), bnd_s, hI_add, hI_sub]
theorem m_cross (h : hV B (hm M)) (k1 : 0 ≤ k) (k2 : k < hm M 2) (m1 : -2147483648 ≤ m) (m2 : m < 2147483648) : ∃ t, fM_crosses M (hI k) (hI m) = some t ∧ (t = true ↔ cr (hm M) k m) := by
  have hl := h.2.2.2.2.1 k k1 k2
  have h2 := h.1.2.2.1
  unfold hVl at hl
  have hq := h.2.2.2.2.2.2 (128 + 4 * k + 2)
  unfold fM_crosses cr
  rw [show (3 : Int32) = hI 3 from rfl, show (1 : Int32) = hI 1 from rfl, m_its k1 (by omega) (by omega) (by omega), bnd_s, m_its k1 (by omega) (by omega) (by omega), bnd_s, m_last k1 (by omega), bnd_s, hI_add, isIn_d m1 m2 (by omega) (by omega) (by omega) (by omega), show (0 : Int32) = hI 0 from rfl, ieq (by omega) (by omega) (by omega) (by omega)]
  by_cases c1 : hm M (128 + 4 * k + 3) = 0
  · rw [if_pos c1]
    by_cases c2 : hm M (128 + 4 * k + 1) + 1 ≤ m ∧ m ≤ hm M (128 + 4 * k + 1) + hm M (128 + 4 * k + 2) - 1
    · rw [decide_eq_true c2, if_pos rfl]
      exact ⟨true, rfl, ⟨fun _ => by omega, fun _ => rfl⟩⟩
    · rw [decide_eq_false c2, if_neg (by decide)]
      exact ⟨false, rfl, ⟨fun z => Bool.noConfusion z, fun z => by omega⟩⟩
  · rw [if_neg c1]
    exact ⟨false, rfl, ⟨fun z => Bool.noConfusion z, fun z => by omega⟩⟩
/-- labels tear -/
theorem t_tear (hr : hR G (hm M)) (h : hV B (hm M)) (m1 : -2147483648 ≤ m) (m2 : m < 2147483648) : ∃ n G1 M1, fG_tearLabels G (hI m) = some (hI n, G1) ∧ iter (fun s => fM_tears_b11 (hI m) s.1 s.2.1 s.2.2) fu (M, 0, 0) = some (hI n, M1) ∧ hR G1 (hm M1) ∧ hV B (hm M1) ∧ hfr M M1 ∧ (∀ w : Int, w < 128 → hm M1 w = hm M w) ∧ 0 ≤ n ∧ n ≤ 8 := by
  have h2 := h.1.2.2.1
  have h0 := h.1.1
  have h1 := h.1.2.1
  have key : ∃ r1 r2, iter (fun s => fG_tearLabels_b4 (hI m) s.1 s.2.1 s.2.2) fu (G, 0, 0) = some r1 ∧ iter (fun s => fM_tears_b11 (hI m) s.1 s.2.1 s.2.2) fu (M, 0, 0) = some r2 ∧ ∃ n G1 M1, r1 = (hI n, G1) ∧ r2 = (hI n, M1) ∧ hR G1 (hm M1) ∧ hV B (hm M1) ∧ hfr M M1 ∧ (∀ w : Int, w < 128 → hm M1 w = hm M w) ∧ 0 ≤ n ∧ n ≤ 8 := by
    refine it_two (hm M 2).toNat (fun i s1 s2 => ∃ n G1 M1, s1 = (G1, hI n, hI i) ∧ s2 = (M1, hI n, hI i) ∧ hR G1 (hm M1) ∧ hV B (hm M1) ∧ hfr M M1 ∧ (∀ w : Int, w < 128 → hm M1 w = hm M w) ∧ 0 ≤ n ∧ n ≤ i) _ (by omega) ⟨0, G, M, rfl, rfl, hr, h, hfr_rf, fun _ _ => rfl, by omega, by omega⟩ ?_
    rintro i s1 s2 hi ⟨n, G1, M1, rfl, rfl, hr1, hV1, hf1, hc1, n1, n2⟩
    have e2 : hm M1 2 = hm M 2 := hc1 2 (by omega)
    have e0 : hm M1 0 = hm M 0 := hc1 0 (by omega)
    have e1 : hm M1 1 = hm M 1 := hc1 1 (by omega)
    unfold fG_tearLabels_b4 fM_tears_b11
    dsimp only
    rw [r_labels hr1, m_2, e2, ilt (by omega) (by omega) (by omega) (by omega), ilt (by omega) (by omega) (by omega) (by omega)]
    by_cases hc : (i : Int) < hm M 2
    · obtain ⟨t, et, ht⟩ := g_cross hr1 hV1 (k := i) (by omega) (by omega) m1 m2
      obtain ⟨u, eu, hu0⟩ := m_cross hV1 (k := i) (by omega) (by omega) m1 m2
      have : u = t := by rw [Bool.eq_iff_iff, ht, hu0]
      subst this
      rw [if_pos hc, if_pos hc, rix_hI (by omega) (by omega) (by omega), bnd_s, et, eu, bnd_s, show (1 : Int32) = hI 1 from rfl, hI_add, hI_add]
      cases u with
      | true =>
        simp only [bnd_s, ↓reduceIte]
        unfold fM_lbl
        rw [show (128 : Int32) = hI 128 from rfl, show (4 : Int32) = hI 4 from rfl, show (3 : Int32) = hI 3 from rfl, hI_mul, hI_add, hI_add, mwr (by omega) (by omega)]
        simp only [bnd_s, mW_of]
        refine Or.inl ⟨by omega, _, _, rfl, rfl, n + 1, _, _, rfl, rfl, ?_, ?_, hfr_W hf1, ?_, by omega, by omega⟩
        · rw [hm_mW (by omega) (by omega)]
          exact hR_torn (by omega) (by omega) (by omega) (by omega) (by omega) rfl hr1
        · rw [hm_mW (by omega) (by omega)]
          exact hV_torn (by omega) (by omega) rfl hV1
        · intro w hw
          rw [hm_mW (by omega) (by omega), hu_ne (by omega)]
          exact hc1 w hw
      | false =>
        simp only [bnd_s, Bool.false_eq_true, ↓reduceIte]
        exact Or.inl ⟨by omega, _, _, rfl, rfl, n, _, _, rfl, rfl, hr1, hV1, hf1, hc1, by omega, by omega⟩
    · rw [if_neg hc, if_neg hc]
      exact Or.inr ⟨_, _, rfl, rfl, n, _, _, rfl, rfl, hr1, hV1, hf1, hc1, n1, by omega⟩
  obtain ⟨r1, r2, q1, q2, n, G1, M1, rfl, rfl, rest⟩ := key
  exact ⟨n, G1, M1, q1, q2, rest⟩
/-- the strain of a seam -/
def bef (σ : Int → Int) (k : Int) : Int := if k = 0 then σ 0 - 1 else k - 1
def aft (σ : Int → Int) (k : Int) : Int := if k = σ 0 - 1 then 0 else k + 1
def stn (σ : Int → Int) (k : Int) : Int := (σ (14 + bef σ k) + σ (14 + k)) / 60 + ((if σ (26 + bef σ k) = 0 then 1 else 0) + (if σ (26 + aft σ k) = 0 then 1 else 0))
theorem bef_r (k1 : 0 ≤ k) (k2 : k < σ 0) : 0 ≤ bef σ k ∧ bef σ k < σ 0 := by
  unfold bef
  split <;> omega
theorem aft_r (k1 : 0 ≤ k) (k2 : k < σ 0) : 0 ≤ aft σ k ∧ aft σ k < σ 0 := by
  unfold aft
  split <;> omega
theorem stn_r (h : hV B σ) (k1 : 0 ≤ k) (k2 : k < σ 0) : 0 ≤ stn σ k ∧ stn σ k ≤ 20 := by
  have hb := bef_r k1 k2
  have w1 := (h.2.2.1 k k1 k2).1
  have w2 := (h.2.2.1 _ hb.1 hb.2).1
  unfold stn
  split <;> split <;> omega
theorem c_strain (hr : hC G σ) (h : hV B σ) (k1 : 0 ≤ k) (k2 : k < σ 0) : fC_strain G (hI k) = some (hI (stn σ k)) := by
  have h0 := h.1.1
  have hb := bef_r k1 k2
  have ha := aft_r k1 k2
  have w1 := (h.2.2.1 k k1 k2).1
  have w2 := h.2.2.1 _ hb.1 hb.2
  have w3 := h.2.2.1 _ ha.1 ha.2
  have e1 : fC_strain G (hI k) = fC_strain_j16 G (hI k) (hI (bef σ k)) := by
    unfold fC_strain bef
    by_cases c : k = 0 <;> simp (disch := omega) only [↓reduceIte, Int.reduceEq, Int.reduceLT, bnd_s, bnd2_s, bnd3_s, hI_lit, hL_lit, hI_add, hI_sub, hI_mul, hI_neg, hI_lt, hI_eq, if_true, if_false, eq_self_iff_true, true_and, and_true, false_and, and_false, decide_eq_true_eq, not_true, not_false_iff, Bool.false_eq_true, Bool.true_eq_false, c, c_gores hr]
  have e2 : fC_strain_j16 G (hI k) (hI (bef σ k)) = fC_strain_j34 G (hI k) (hI (bef σ k)) (hI (aft σ k)) := by
    unfold fC_strain_j16 aft
    by_cases c : k = σ 0 - 1
    · rw [if_pos c, c_gores hr, show (1 : Int32) = hI 1 from rfl, hI_sub, ← c, if_pos rfl]; rfl
    · simp (disch := omega) only [↓reduceIte, Int.reduceEq, Int.reduceLT, bnd_s, bnd2_s, bnd3_s, hI_lit, hL_lit, hI_add, hI_sub, hI_mul, hI_neg, hI_lt, hI_eq, if_true, if_false, eq_self_iff_true, true_and, and_true, false_and, and_false, decide_eq_true_eq, not_true, not_false_iff, Bool.false_eq_true, Bool.true_eq_false, c, c_gores hr]
  rw [e1, e2]
  unfold fC_strain_j34 fC_strain_j49 fC_strain_j63 stn
  by_cases c1 : σ (26 + bef σ k) = 0 <;> by_cases c2 : σ (26 + aft σ k) = 0 <;>
    simp (disch := omega) only [↓reduceIte, Int.reduceEq, Int.reduceLT, bnd_s, bnd2_s, bnd3_s, hI_lit, hL_lit, hI_add, hI_sub, hI_mul, hI_neg, hI_lt, hI_eq, if_true, if_false, eq_self_iff_true, true_and, and_true, false_and, and_false, decide_eq_true_eq, not_true, not_false_iff, Bool.false_eq_true, Bool.true_eq_false, c_stitch hr, c_width hr, c1, c2, b2i_t, b2i_f, hI_div]
theorem m_strain (h : hV B (hm M)) (k1 : 0 ≤ k) (k2 : k < hm M 0) : fM_strain M (hI k) = some (hI (stn (hm M) k)) := by
  have h0 := h.1.1
  have hb := bef_r k1 k2
  have ha := aft_r k1 k2
  have w1 := (h.2.2.1 k k1 k2).1
  have w2 := h.2.2.1 _ hb.1 hb.2
  have w3 := h.2.2.1 _ ha.1 ha.2
  have e1 : (k + hm M 0 - 1) % hm M 0 = bef (hm M) k := by
    unfold bef
    split
    · rename_i c
      subst c
      rw [show 0 + hm M 0 - 1 = hm M 0 - 1 by omega]
      exact Int.emod_eq_of_lt (by omega) (by omega)
    · rw [show k + hm M 0 - 1 = (k - 1) + hm M 0 by omega, Int.add_emod_right]
      exact Int.emod_eq_of_lt (by omega) (by omega)
  have e2 : (k + 1) % hm M 0 = aft (hm M) k := by
    unfold aft
    split
    · rename_i c
      rw [show k + 1 = hm M 0 by omega, Int.emod_self]
    · exact Int.emod_eq_of_lt (by omega) (by omega)
  unfold fM_strain stn
  by_cases c1 : hm M (26 + bef (hm M) k) = 0 <;> by_cases c2 : hm M (26 + aft (hm M) k) = 0 <;>
    simp (disch := omega) only [↓reduceIte, Int.reduceEq, Int.reduceLT, bnd_s, bnd2_s, bnd3_s, hI_lit, hL_lit, hI_add, hI_sub, hI_mul, hI_neg, hI_lt, hI_eq, if_true, if_false, eq_self_iff_true, true_and, and_true, false_and, and_false, decide_eq_true_eq, not_true, not_false_iff, Bool.false_eq_true, Bool.true_eq_false, mrd, m_0, m_torn, zrem_hI, e1, e2, c1, c2, tr_t, tr_f, hI_div, decide_true, decide_false]
  all_goals (congr 2; omega)
/-- a seam wears -/
def wv (σ : Int → Int) (k : Int) : Int := if stn σ k < σ (26 + k) then σ (26 + k) - stn σ k else 0
theorem wv_r (h : hV B σ) (k1 : 0 ≤ k) (k2 : k < σ 0) : 0 ≤ wv σ k ∧ wv σ k ≤ 99 := by
  have h1 := h.2.2.1 k k1 k2
  have h2 := stn_r h k1 k2
  unfold wv
  split <;> omega
theorem c_wear (hr : hC G σ) (h : hV B σ) (k1 : 0 ≤ k) (k2 : k < σ 0) : fC_wear G (hI k) = if σ (26 + k) = 0 then some (false, G) else some (decide (wv σ k = 0), wgA G 4 (upd (gA G 4) k.toNat (hI (wv σ k)))) := by
  have h0 := h.1.1
  have h1 := h.2.2.1 k k1 k2
  have h2 := stn_r h k1 k2
  have h3 := wv_r h k1 k2
  unfold fC_wear
  rw [c_stitch hr k1 k2 (by omega), bnd_s, show (0 : Int32) = hI 0 from rfl, ieq (by omega) (by omega) (by omega) (by omega)]
  by_cases c : σ (26 + k) = 0
  · rw [if_pos c, if_pos c]
  · rw [if_neg c, if_neg c, bnd_s, c_strain hr h k1 k2, bnd_s, hI_sub]
    have e : fJ_max_7cf53 (hI 0) (hI (σ (26 + k) - stn σ k)) = hI (wv σ k) := by
      unfold fJ_max_7cf53 wv
      rw [ilt (by omega) (by omega) (by omega) (by omega)]
      by_cases c2 : stn σ k < σ (26 + k)
      · rw [if_pos (by omega), if_pos c2]
      · rw [if_neg (by omega), if_neg c2]
    rw [e, wr_hI k1 (by omega) (by omega), bnd_s, bnd_s, rd_hI k1 (by omega) (by omega), gA_wA, if_pos rfl, bnd_s, upd_w, if_pos rfl, ieq (by omega) (by omega) (by omega) (by omega)]
    by_cases c3 : wv σ k = 0
    · rw [if_pos c3, decide_eq_true c3]
    · rw [if_neg c3, decide_eq_false c3]
/-- the reference's seam wears: nothing, or the stitches and what tears with them -/
theorem m_wears (h : hV B (hm M)) (k1 : 0 ≤ k) (k2 : k < hm M 0) : fM_wears M (hI k) = if hm M (26 + k) = 0 then some (hI 0, M) else if wv (hm M) k = 0 then bnd2 (iter (fun s => fM_tears_b11 (hI (bg (hm M) k)) s.1 s.2.1 s.2.2) fu (mW M (26 + k) (wv (hm M) k), 0, 0)) fun n M1 => some (hI 1, wmF M1 29 n) else some (hI 0, mW M (26 + k) (wv (hm M) k)) := by
  have h0 := h.1.1
  have h1 := h.2.2.1 k k1 k2
  have h2 := stn_r h k1 k2
  have h3 := wv_r h k1 k2
  have hV1 : hV B (hm (mW M (26 + k) (wv (hm M) k))) := by
    rw [hm_mW (by omega) (by omega)]
    exact hV_stitch k1 (by omega) h3.1 h3.2 h
  have e0 : hm (mW M (26 + k) (wv (hm M) k)) 0 = hm M 0 := by rw [hm_mW (by omega) (by omega), hu_ne (by omega)]
  have eb : bg (hm (mW M (26 + k) (wv (hm M) k))) k = bg (hm M) k := by rw [hm_mW (by omega) (by omega), bg_u (by omega)]
  have et : fM_tears (mW M (26 + k) (wv (hm M) k)) (hI k) = iter (fun s => fM_tears_b11 (hI (bg (hm M) k)) s.1 s.2.1 s.2.2) fu (mW M (26 + k) (wv (hm M) k), 0, 0) := by
    unfold fM_tears
    rw [m_begin hV1 k1 (by omega), bnd_s, eb]
  have ej : ∀ x : Int32, x = hI (wv (hm M) k) → fM_wears_j52 M (hI k) x (hI (26 + k)) = if wv (hm M) k = 0 then bnd2 (iter (fun s => fM_tears_b11 (hI (bg (hm M) k)) s.1 s.2.1 s.2.2) fu (mW M (26 + k) (wv (hm M) k), 0, 0)) fun n M1 => some (hI 1, wmF M1 29 n) else some (hI 0, mW M (26 + k) (wv (hm M) k)) := by
    rintro x rfl
    unfold fM_wears_j52
    rw [mwr (by omega) (by omega), bnd_s, bnd_s, mW_of, m_torn k1 (by omega), bnd_s, hm_mW (by omega) (by omega), hu_same, hw_id (by omega) (by omega)]
    by_cases c3 : wv (hm M) k = 0
    · rw [decide_eq_true c3, if_pos rfl, if_pos c3, et]; rfl
    · rw [decide_eq_false c3, if_neg (by decide), if_neg c3]; rfl
  unfold fM_wears
  rw [m_torn k1 (by omega), bnd_s]
  by_cases c : hm M (26 + k) = 0
  · rw [decide_eq_true c, if_pos rfl, if_pos c]; rfl
  · rw [decide_eq_false c, if_neg (by decide), if_neg c, m_strain h k1 k2, bnd_s, show (26 : Int32) = hI 26 from rfl, hI_add, mrd (by omega) (by omega), bnd_s, bnd_s, ilt (by omega) (by omega) (by omega) (by omega)]
    by_cases c2 : stn (hm M) k < hm M (26 + k)
    · rw [if_pos c2, hI_sub]
      exact ej _ (by unfold wv; rw [if_pos c2])
    · rw [if_neg c2]
      exact ej _ (by unfold wv; rw [if_neg c2]; rfl)
/-- all seams wear -/
theorem t_wear (hr : hR G (hm M)) (h : hV B (hm M)) (k1 : 0 ≤ k) (k2 : k < hm M 0) : ∃ t n G1 G2 M1, fC_wear G (hI k) = some (t, G1) ∧ (bnd (rd 12 (gA G1 3) (hI k)) fun v => bnd2 (fG_tearLabels G1 v) fun x G => some (x, G)) = some (hI n, G2) ∧ fM_wears M (hI k) = some (hI (if t = true then 1 else 0), M1) ∧ hR (if t = true then G2 else G1) (hm M1) ∧ hV B (hm M1) ∧ hfr M M1 ∧ (∀ w, w < 26 → hm M1 w = hm M w) ∧ (∀ w, w < 128 → hm M1 w = (if hm M (26 + k) = 0 then hm M w else hu (hm M) (26 + k) (wv (hm M) k) w)) := by
  have h0 := h.1.1
  have h1 := h.1.2.1
  have h2 := h.1.2.2.1
  have h3 := wv_r h k1 k2
  have hg := bg_r h k1 k2
  rw [c_wear (hR_C hr) h k1 k2, m_wears h k1 k2]
  by_cases c : hm M (26 + k) = 0
  · rw [if_pos c, if_pos c]
    obtain ⟨n, G2, M2, e1, -⟩ := t_tear (m := bg (hm M) k) hr h (by omega) (by omega)
    refine ⟨false, n, G, G2, M, rfl, ?_, rfl, hr, h, hfr_rf, fun _ _ => rfl, fun w hw => by rw [if_pos c]⟩
    rw [r_begin hr k1 k2 (by omega), bnd_s, e1]; rfl
  · rw [if_neg c, if_neg c]
    have eM : hm (mW M (26 + k) (wv (hm M) k)) = hu (hm M) (26 + k) (wv (hm M) k) := hm_mW (by omega) (by omega)
    have hr1 : hR (wgA G 4 (upd (gA G 4) k.toNat (hI (wv (hm M) k)))) (hm (mW M (26 + k) (wv (hm M) k))) := by
      rw [eM]; exact hR_stitch (by omega) (by omega) (by omega) k1 (by omega) hr
    have hV1 : hV B (hm (mW M (26 + k) (wv (hm M) k))) := by
      rw [eM]; exact hV_stitch k1 (by omega) h3.1 h3.2 h
    have ew : ∀ w, w < 26 → hm (mW M (26 + k) (wv (hm M) k)) w = hm M w := fun w hw => by rw [eM, hu_ne (by omega)]
    obtain ⟨n, G2, M2, e1, e2, e3, e4, e5, e6, e7, e8⟩ := t_tear (m := bg (hm M) k) hr1 hV1 (by omega) (by omega)
    have et : (bnd (rd 12 (gA (wgA G 4 (upd (gA G 4) k.toNat (hI (wv (hm M) k)))) 3) (hI k)) fun v => bnd2 (fG_tearLabels (wgA G 4 (upd (gA G 4) k.toNat (hI (wv (hm M) k)))) v) fun x G => some (x, G)) = some (hI n, G2) := by
      rw [gA_wA, if_neg (by decide), r_begin hr k1 k2 (by omega), bnd_s, e1]; rfl
    by_cases c3 : wv (hm M) k = 0
    · rw [if_pos c3, decide_eq_true c3]
      refine ⟨true, n, _, G2, wmF M2 29 (hI n), rfl, et, ?_, e3, e4, hfr_L (hfr_tr (hfr_W hfr_rf) e5), fun w hw => (e6 w (by omega)).trans (ew w hw), fun w hw => by rw [if_neg c, ← eM]; exact e6 w hw⟩
      rw [e2]; rfl
    · rw [if_neg c3, decide_eq_false c3]
      exact ⟨false, n, _, G2, _, rfl, et, rfl, hr1, hV1, hfr_W hfr_rf, ew, fun w hw => by rw [if_neg c, ← eM]⟩
end HHF

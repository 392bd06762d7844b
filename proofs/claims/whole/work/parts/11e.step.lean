/-! A STEP, A WALK, THE DIARIES OF AN HOUR -/
section HHE
variable {σ τ : Int → Int} {M M1 M2 : zM} {G Go : zG} {z v w k B b m d : Int}
/-- all below the spots but the thread stays -/
def hct (σ τ : Int → Int) : Prop := ∀ w : Int, 0 ≤ w → w < 38 → w ≠ 3 → τ w = σ w
theorem hct_rf : hct σ σ := fun _ _ _ _ => rfl
theorem hct_tr {ρ : Int → Int} (h1 : hct σ τ) (h2 : hct τ ρ) : hct σ ρ := fun w a b c => (h2 w a b c).trans (h1 w a b c)
theorem hct_u (hz : 38 ≤ z ∨ z = 3) (h : hct σ τ) : hct σ (hu τ z v) := fun w a b c => by rw [hu_ne (by omega)]; exact h w a b c
theorem hu_comm {x y : Int} (h : z ≠ w) : hu (hu σ z x) w y = hu (hu σ w y) z x := by
  funext j
  unfold hu
  by_cases h1 : j = w
  · rw [if_pos h1, if_neg (by omega), if_pos h1]
  · rw [if_neg h1, if_neg h1]
theorem beside_E (m1 : 0 ≤ m) (m2 : m < 360) : fG_meridianBeside (hI m) (hI 0) = hI ((m + 1) % 360) := by
  unfold fG_meridianBeside fG_meridianBeside_j12
  rw [show (if hI 0 = 0 then hI m + 1 - (hI m + 1) / 360 * 360 else hI m + 359 - (hI m + 359) / 360 * 360) = hI m + 1 - (hI m + 1) / 360 * 360 from if_pos rfl, show (1 : Int32) = hI 1 from rfl, show (360 : Int32) = hI 360 from rfl, hI_add, hI_div (by omega) (by omega) (by omega) (by omega), hI_mul, hI_sub]
  congr 1
  omega
theorem beside_W (m1 : 0 ≤ m) (m2 : m < 360) : fG_meridianBeside (hI m) (hI 1) = hI ((m + 359) % 360) := by
  unfold fG_meridianBeside fG_meridianBeside_j12
  rw [if_neg (by decide), show (359 : Int32) = hI 359 from rfl, show (360 : Int32) = hI 360 from rfl, hI_add, hI_div (by omega) (by omega) (by omega) (by omega), hI_mul, hI_sub]
  congr 1
  omega
theorem m_east (m1 : 0 ≤ m) (m2 : m < 360) : fM_east (hI m) = hI ((m + 1) % 360) := by
  unfold fM_east
  rw [show (1 : Int32) = hI 1 from rfl, show (360 : Int32) = hI 360 from rfl, hI_add, hI_div (by omega) (by omega) (by omega) (by omega), hI_mul, hI_sub]
  congr 1
  omega
theorem m_west (m1 : 0 ≤ m) (m2 : m < 360) : fM_west (hI m) = hI ((m + 359) % 360) := by
  unfold fM_west
  rw [show (1 : Int32) = hI 1 from rfl, show (360 : Int32) = hI 360 from rfl, hI_add, hI_sub, hI_div (by omega) (by omega) (by omega) (by omega), hI_mul, hI_sub]
  congr 1
  omega
/-- why no step -/
theorem t_stepWhy (hr : hR G (hm M)) (h : hV B (hm M)) (k1 : 0 ≤ k) (k2 : k < hm M 1) (d1 : d = 0 ∨ d = 1) : ∃ x : Int, 0 ≤ x ∧ x ≤ 2 ∧ fG_stepHindrance G k.toNat (hI d) = some (hI x) ∧ fM_stepWhy M (hI k) (hI d) = some (hI x) ∧ (x = 0 → hm M (38 + 9 * k + 2) = 1) := by
  have h1 := h.1.2.1
  have hs := h.2.2.2.1 k k1 k2
  unfold hVs at hs
  unfold fG_stepHindrance fM_stepWhy
  rw [r_trav hr k1 k2, m_trav k1 (by omega), bnd_s, r_s3 hr k1 k2, show (4 : Int32) = hI 4 from rfl, m_of k1 (by omega) (by omega) (by omega), bnd_s, bnd_s]
  by_cases ht : hm M (38 + 9 * k + 2) = 1
  · rw [decide_eq_true ht, if_pos rfl, if_pos rfl]
    have fin : ∀ y : Int, -2147483648 ≤ y → y < 2147483648 → ∃ x : Int, 0 ≤ x ∧ x ≤ 2 ∧ fG_stepHindrance_j28 G (hI y) = some (hI x) ∧ fM_stepWhy_j32 M (hI y) = some (hI x) ∧ (x = 0 → hm M (38 + 9 * k + 2) = 1) := by
      intro y y1 y2
      obtain ⟨t, e1, e2, -⟩ := t_tornAt hr h y1 y2
      unfold fG_stepHindrance_j28 fM_stepWhy_j32
      simp only [e1, e2, bnd_s]
      cases t with
      | true => exact ⟨2, by omega, by omega, rfl, rfl, fun _ => ht⟩
      | false => exact ⟨0, by omega, by omega, rfl, rfl, fun _ => ht⟩
    rcases d1 with rfl | rfl
    · rw [show (0 : Int32) = hI 0 from rfl, if_pos rfl, if_pos rfl, beside_E (by omega) (by omega), m_east (by omega) (by omega)]
      exact fin _ (by omega) (by omega)
    · rw [if_neg (by decide), if_neg (by decide)]
      exact fin _ (by omega) (by omega)
  · rw [decide_eq_false ht, if_neg (by decide), if_neg (by decide)]
    exact ⟨1, by omega, by omega, rfl, rfl, fun z => by omega⟩
/-- a step: where to, what of the diary, what of the crossings -/
def sTo (σ : Int → Int) (k d : Int) : Int := if d = 0 then (σ (38 + 9 * k + 4) + 1) % 360 else (σ (38 + 9 * k + 4) + 359) % 360
def sH (σ : Int → Int) (k m : Int) : Int := lh σ (σ (38 + 9 * k + 3)) m % 24
def sC (σ : Int → Int) (k d : Int) : Int := if σ (5 + σ (38 + 9 * k + 3)) = (if d = 0 then sTo σ k d else σ (38 + 9 * k + 4)) then 1 else 0
def sD (σ : Int → Int) (k d : Int) : Int := if d = 0 then (if sH σ k (σ (38 + 9 * k + 4)) = 23 ∧ sH σ k (sTo σ k d) = 0 then 1 else 0) - sC σ k d else sC σ k d - (if sH σ k (σ (38 + 9 * k + 4)) = 0 ∧ sH σ k (sTo σ k d) = 23 then 1 else 0)
theorem sTo_r (h : hV B σ) (k1 : 0 ≤ k) (k2 : k < σ 1) : 0 ≤ sTo σ k d ∧ sTo σ k d < 360 := by
  have hs := h.2.2.2.1 k k1 k2
  unfold hVs at hs
  unfold sTo
  split <;> omega
theorem b2i_t : b2i true = hI 1 := rfl
theorem b2i_f : b2i false = hI 0 := rfl
theorem tr_t : fM_truth true = hI 1 := rfl
theorem tr_f : fM_truth false = hI 0 := rfl
theorem tr_d {p : Prop} [Decidable p] : fM_truth (decide p) = hI (if p then 1 else 0) := by
  by_cases h : p
  · rw [decide_eq_true h, if_pos h]; rfl
  · rw [decide_eq_false h, if_neg h]; rfl
def gStep (G : zG) (σ : Int → Int) (k d : Int) : zG := wgF (wgF (wgF G (7 + k.toNat) 4 (hI (σ (38 + 9 * k + 5) + sD σ k d))) (7 + k.toNat) 7 (hI (σ (38 + 9 * k + 8) + sC σ k d))) (7 + k.toNat) 3 (hI (sTo σ k d))
theorem g_step (hr : hR G σ) (h : hV B σ) (hB : B < 1000000000) (k1 : 0 ≤ k) (k2 : k < σ 1) (d1 : d = 0 ∨ d = 1) : fG_makeStep G k.toNat (hI d) = some (gStep G σ k d) := by
  have h1 := h.1.2.1
  have hs := h.2.2.2.1 k k1 k2
  unfold hVs at hs
  have hto := sTo_r (d := d) h k1 k2
  have hq := h.2.1 (σ (38 + 9 * k + 3)) (by omega) (by omega)
  unfold fG_makeStep gStep
  have hbes : fG_meridianBeside (hI (σ (38 + 9 * k + 4))) (hI d) = hI (sTo σ k d) := by
    unfold sTo
    rcases d1 with rfl | rfl
    · rw [if_pos rfl]; exact beside_E (by omega) (by omega)
    · rw [if_neg (by decide)]; exact beside_W (by omega) (by omega)
  have l1 := lh_r (b := σ (38 + 9 * k + 3)) h hB (m := σ (38 + 9 * k + 4)) (by omega) (by omega)
  have l2 := lh_r (b := σ (38 + 9 * k + 3)) h hB (m := sTo σ k d) (by omega) (by omega)
  rw [r_s2 hr k1 k2, r_s3 hr k1 k2, r_s4 hr k1 k2, hbes, g_lh hr h (by omega) (by omega) (by omega) (by omega), bnd_s, g_lh hr h (by omega) (by omega) (by omega) (by omega), show (24 : Int32) = hI 24 from rfl, fJ_mod (Or.inr rfl) (by omega) (by omega), bnd_s, bnd_s, fJ_mod (Or.inr rfl) (by omega) (by omega), bnd_s, r_hem hr (by omega) (by omega), bnd_s]
  have q1 : lh σ (σ (38 + 9 * k + 3)) (σ (38 + 9 * k + 4)) % 24 = sH σ k (σ (38 + 9 * k + 4)) := rfl
  have q2 : lh σ (σ (38 + 9 * k + 3)) (sTo σ k d) % 24 = sH σ k (sTo σ k d) := rfl
  rw [q1, q2]
  have q3 : 0 ≤ sH σ k (σ (38 + 9 * k + 4)) ∧ sH σ k (σ (38 + 9 * k + 4)) < 24 := by unfold sH; omega
  have q4 : 0 ≤ sH σ k (sTo σ k d) ∧ sH σ k (sTo σ k d) < 24 := by unfold sH; omega
  have g8 : ∀ x : Int32, gF (wgF G (7 + k.toNat) 4 x) (7 + k.toNat) 7 = hI (σ (38 + 9 * k + 8)) := by
    intro x
    rw [gF_w, if_neg (by omega), r_s7 hr k1 k2]
  unfold sD sC
  rcases d1 with rfl | rfl
  · by_cases c1 : sH σ k (σ (38 + 9 * k + 4)) = 23 <;> by_cases c2 : sH σ k (sTo σ k 0) = 0 <;> by_cases c3 : σ (5 + σ (38 + 9 * k + 3)) = sTo σ k 0 <;>
      (have c4 : (sTo σ k 0 = σ (5 + σ (38 + 9 * k + 3))) = (σ (5 + σ (38 + 9 * k + 3)) = sTo σ k 0) := propext eq_comm) <;>
      simp (disch := omega) only [fG_makeStep_j81, fG_makeStep_j82, fG_makeStep_j94, fG_makeStep_j116, fG_makeStep_j181, ↓reduceIte, Int.reduceEq, Int.reduceLT, bnd_s, bnd2_s, bnd3_s, hI_lit, hL_lit, hI_add, hI_sub, hI_mul, hI_neg, hI_lt, hI_eq, if_true, if_false, eq_self_iff_true, true_and, and_true, false_and, and_false, decide_eq_true_eq, not_true, not_false_iff, Bool.false_eq_true, Bool.true_eq_false, c1, c2, c3, c4, g8, b2i_t, b2i_f]
  · by_cases c1 : sH σ k (σ (38 + 9 * k + 4)) = 0 <;> by_cases c2 : sH σ k (sTo σ k 1) = 23 <;> by_cases c3 : σ (5 + σ (38 + 9 * k + 3)) = σ (38 + 9 * k + 4) <;>
      (have c4 : (σ (38 + 9 * k + 4) = σ (5 + σ (38 + 9 * k + 3))) = (σ (5 + σ (38 + 9 * k + 3)) = σ (38 + 9 * k + 4)) := propext eq_comm) <;>
      simp (disch := omega) only [fG_makeStep_j139, fG_makeStep_j155, fG_makeStep_j156, fG_makeStep_j177, fG_makeStep_j181, ↓reduceIte, Int.reduceEq, Int.reduceLT, bnd_s, bnd2_s, bnd3_s, hI_lit, hL_lit, hI_add, hI_sub, hI_mul, hI_neg, hI_lt, hI_eq, if_true, if_false, eq_self_iff_true, true_and, and_true, false_and, and_false, decide_eq_true_eq, not_true, not_false_iff, Bool.false_eq_true, Bool.true_eq_false, c1, c2, c3, c4, g8, b2i_t, b2i_f]
theorem t_step (hr : hR G (hm M)) (h : hV B (hm M)) (hB : B < 1000000000) (k1 : 0 ≤ k) (k2 : k < hm M 1) (d1 : d = 0 ∨ d = 1) : ∃ G1 M1, fG_makeStep G k.toNat (hI d) = some G1 ∧ fM_steps M (hI k) (hI d) = some (hI (sTo (hm M) k d), M1) ∧ hR G1 (hm M1) ∧ hV B (hm M1) ∧ hfr M M1 ∧ hct (hm M) (hm M1) ∧ hm M1 (38 + 9 * k + 4) = sTo (hm M) k d ∧ hm M1 (38 + 9 * k + 2) = hm M (38 + 9 * k + 2) ∧ hm M1 (38 + 9 * k + 7) = hm M (38 + 9 * k + 7) := by
  have h1 := h.1.2.1
  have h0 := h.1.1
  have h2 := h.1.2.2.1
  have hs := h.2.2.2.1 k k1 k2
  unfold hVs at hs
  have hto := sTo_r (d := d) h k1 k2
  have hq := h.2.1 (hm M (38 + 9 * k + 3)) (by omega) (by omega)
  refine ⟨_, mW (mW (mW M (38 + 9 * k + 4) (sTo (hm M) k d)) (38 + 9 * k + 8) (hm M (38 + 9 * k + 8) + sC (hm M) k d)) (38 + 9 * k + 5) (hm M (38 + 9 * k + 5) + sD (hm M) k d), g_step hr h hB k1 k2 d1, ?_, ?_, ?_, hfr_W (hfr_W (hfr_W hfr_rf)), ?_, ?_, ?_, ?_⟩
  · have hM1 : ∀ x, hm (mW M (38 + 9 * k + 4) x) = hu (hm M) (38 + 9 * k + 4) x := fun x => hm_mW (by omega) (by omega)
    have hV1 : hV B (hm (mW M (38 + 9 * k + 4) (sTo (hm M) k d))) := by
      rw [hM1]; exact hV_mer k1 (by omega) hto.1 hto.2 h
    have hH : fM_hourNow (mW M (38 + 9 * k + 4) (sTo (hm M) k d)) (hI k) = some (hI (sH (hm M) k (sTo (hm M) k d))) := by
      rw [m_hour hV1 hB k1 (by rw [hM1, hu_ne (by omega)]; exact k2), hM1, hu_same, hu_ne (show 38 + 9 * k + 3 ≠ 38 + 9 * k + 4 by omega), hw_id (by omega) (by omega)]
      congr 2
      unfold sH lh lo
      rw [hu_ne (by omega), hu_ne (by omega)]
    have q3 : 0 ≤ sH (hm M) k (hm M (38 + 9 * k + 4)) ∧ sH (hm M) k (hm M (38 + 9 * k + 4)) < 24 := by unfold sH; omega
    have q4 : 0 ≤ sH (hm M) k (sTo (hm M) k d) ∧ sH (hm M) k (sTo (hm M) k d) < 24 := by unfold sH; omega
    have q1 : lh (hm M) (hm M (38 + 9 * k + 3)) (hm M (38 + 9 * k + 4)) % 24 = sH (hm M) k (hm M (38 + 9 * k + 4)) := rfl
    unfold fM_steps
    rcases d1 with rfl | rfl
    · have e : fM_east (hI (hm M (38 + 9 * k + 4))) = hI (sTo (hm M) k 0) := by rw [m_east (by omega) (by omega)]; rfl
      by_cases c1 : sH (hm M) k (hm M (38 + 9 * k + 4)) = 23 <;> by_cases c2 : sH (hm M) k (sTo (hm M) k 0) = 0 <;> by_cases c3 : hm M (5 + hm M (38 + 9 * k + 3)) = sTo (hm M) k 0 <;>
        simp (disch := omega) only [sD, sC, fM_steps_j59, fM_steps_j84, fM_steps_j92, fM_steps_j141, fM_steps_j140, fM_steps_j192, ↓reduceIte, Int.reduceEq, Int.reduceLT, bnd_s, bnd2_s, bnd3_s, hI_lit, hL_lit, hI_add, hI_sub, hI_mul, hI_neg, hI_lt, hI_eq, if_true, if_false, eq_self_iff_true, true_and, and_true, false_and, and_false, decide_eq_true_eq, not_true, not_false_iff, Bool.false_eq_true, Bool.true_eq_false, mrd, mwr, mW_of, mW_0, mW_1, mW_2, mW_3, mW_4, m_0, m_1, m_2, m_3, m_4, hm_mW, hu_same, hu_ne, hw_id, hm_L, m_of, m_its, m_trav, fM_spt, fM_lbl, hI_hw, m_hour h hB k1 k2, q1, hH, e, c1, c2, c3, tr_t, tr_f]
    · have e : fM_west (hI (hm M (38 + 9 * k + 4))) = hI (sTo (hm M) k 1) := by rw [m_west (by omega) (by omega)]; rfl
      by_cases c1 : sH (hm M) k (hm M (38 + 9 * k + 4)) = 0 <;> by_cases c2 : sH (hm M) k (sTo (hm M) k 1) = 23 <;> by_cases c3 : hm M (5 + hm M (38 + 9 * k + 3)) = hm M (38 + 9 * k + 4) <;>
        simp (disch := omega) only [sD, sC, fM_steps_j59, fM_steps_j84, fM_steps_j92, fM_steps_j186, fM_steps_j185, fM_steps_j192, ↓reduceIte, Int.reduceEq, Int.reduceLT, bnd_s, bnd2_s, bnd3_s, hI_lit, hL_lit, hI_add, hI_sub, hI_mul, hI_neg, hI_lt, hI_eq, if_true, if_false, eq_self_iff_true, true_and, and_true, false_and, and_false, decide_eq_true_eq, not_true, not_false_iff, Bool.false_eq_true, Bool.true_eq_false, mrd, mwr, mW_of, mW_0, mW_1, mW_2, mW_3, mW_4, m_0, m_1, m_2, m_3, m_4, hm_mW, hu_same, hu_ne, hw_id, hm_L, m_of, m_its, m_trav, fM_spt, fM_lbl, hI_hw, m_hour h hB k1 k2, q1, hH, e, c1, c2, c3, tr_t, tr_f]
  · rw [hm_mW (by omega) (by omega), hm_mW (by omega) (by omega), hm_mW (by omega) (by omega), hu_comm (show 38 + 9 * k + 4 ≠ 38 + 9 * k + 8 by omega), hu_comm (show 38 + 9 * k + 4 ≠ 38 + 9 * k + 5 by omega), hu_comm (show 38 + 9 * k + 8 ≠ 38 + 9 * k + 5 by omega)]
    unfold gStep
    refine hR_mer ?_ ?_ ?_ k1 (by omega) (hR_cross ?_ ?_ ?_ k1 (by omega) (hR_diary (by omega) (by omega) (by omega) k1 (by omega) hr))
    all_goals
      repeat rw [hu_ne (by omega)]
      omega
  · rw [hm_mW (by omega) (by omega), hm_mW (by omega) (by omega), hm_mW (by omega) (by omega)]
    exact hV_free (Or.inr ⟨k, k1, by omega, Or.inl rfl⟩) (hV_free (Or.inr ⟨k, k1, by omega, Or.inr rfl⟩) (hV_mer k1 (by omega) hto.1 hto.2 h))
  · rw [hm_mW (by omega) (by omega), hm_mW (by omega) (by omega), hm_mW (by omega) (by omega)]
    exact hct_u (by omega) (hct_u (by omega) (hct_u (by omega) hct_rf))
  · rw [hm_mW (by omega) (by omega), hm_mW (by omega) (by omega), hm_mW (by omega) (by omega), hu_ne (by omega), hu_ne (by omega), hu_same, hw_id (by omega) (by omega)]
  · rw [hm_mW (by omega) (by omega), hm_mW (by omega) (by omega), hm_mW (by omega) (by omega), hu_ne (by omega), hu_ne (by omega), hu_ne (by omega)]
  · rw [hm_mW (by omega) (by omega), hm_mW (by omega) (by omega), hm_mW (by omega) (by omega), hu_ne (by omega), hu_ne (by omega), hu_ne (by omega)]
end HHE

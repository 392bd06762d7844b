/-! AN HOUR, AND HOURS -/
section HHG
variable {σ τ : Int → Int} {M M1 M2 : zM} {G Go : zG} {z v w k B b m d : Int}
/-- all seams, side by side; a count on -/
theorem t_wearAll (hr : hR G (hm M)) (h : hV B (hm M)) (hc : hm M 4 % 6 = 0) : ∃ n G1 M1, fG_wearSeams G = some (hI n, G1) ∧ iter (fun s => fM_passesOne_b101 s.1 s.2.1 s.2.2) fu (M, 0, 0) = some (hI n, M1) ∧ hR G1 (hm M1) ∧ hV B (hm M1) ∧ hfr M M1 ∧ (∀ w, w < 26 → hm M1 w = hm M w) := by
  have h0 := h.1.1
  have h4 := h.1.2.2.2
  have hq := h.2.2.2.2.2.2 4
  have key : ∃ r1 r2, iter (fun s => fG_wearSeams_b4 s.1 s.2.1 s.2.2) fu (G, 0, 0) = some r1 ∧ iter (fun s => fM_passesOne_b101 s.1 s.2.1 s.2.2) fu (M, 0, 0) = some r2 ∧ ∃ n G1 M1, r1 = (hI n, G1) ∧ r2 = (hI n, M1) ∧ hR G1 (hm M1) ∧ hV B (hm M1) ∧ hfr M M1 ∧ (∀ w, w < 26 → hm M1 w = hm M w) := by
    refine it_two (hm M 0).toNat (fun i s1 s2 => ∃ n G1 M1, s1 = (G1, hI n, hI i) ∧ s2 = (M1, hI n, hI i) ∧ hR G1 (hm M1) ∧ hV B (hm M1) ∧ hfr M M1 ∧ (∀ w, w < 26 → hm M1 w = hm M w)) _ (by omega) ⟨0, G, M, rfl, rfl, hr, h, hfr_rf, fun _ _ => rfl⟩ ?_
    rintro i s1 s2 hi ⟨n, G1, M1, rfl, rfl, hr1, hV1, hf1, hc1⟩
    have e0 : hm M1 0 = hm M 0 := hc1 0 (by omega)
    have e4 : hm M1 4 = hm M 4 := hc1 4 (by omega)
    unfold fG_wearSeams_b4 fM_passesOne_b101
    dsimp only
    by_cases hi2 : (i : Int) < hm M 0
    · obtain ⟨t, x, G2, G3, M3, q1, q2, q3, q4, q5, q6, q7, -⟩ := t_wear hr1 hV1 (k := i) (by omega) (by omega)
      have c6 : (hm M 4 - hm M 4 / 6 * 6 = 0) = True := eq_true (by omega)
      simp (disch := omega) only [↓reduceIte, Int.reduceEq, Int.reduceLT, bnd_s, bnd2_s, bnd3_s, hI_lit, hL_lit, hI_add, hI_sub, hI_mul, hI_neg, hI_lt, hI_eq, if_true, if_false, eq_self_iff_true, true_and, and_true, false_and, and_false, decide_eq_true_eq, not_true, not_false_iff, Bool.false_eq_true, Bool.true_eq_false, r_gores hr1, m_0, m_4, e0, e4, hi2, q1, q3, hI_div, c6]
      cases t with
      | true =>
        simp only [↓reduceIte, Bool.false_eq_true] at q3 q4 ⊢
        have q2' : (bnd (rd 12 (gA G2 3) (hI i)) fun v5 => bnd2 (fG_tearLabels G2 v5) fun v7 G6 => some (.inl (G6, hI (n + 1), hI (i + 1)))) = some ((.inl (G3, hI (n + 1), hI (i + 1)) : (zG × Int32 × Int32) ⊕ (Int32 × zG))) := by
          obtain ⟨v5, z1, z2⟩ := bnd_some q2
          obtain ⟨v7, G6, z3, z4⟩ := bnd2_some z2
          cases z4
          rw [z1, bnd_s, z3, bnd2_s]
        rw [q2']
        exact Or.inl ⟨by omega, _, _, rfl, rfl, n + 1, _, _, rfl, rfl, q4, q5, hfr_tr hf1 q6, fun w hw => (q7 w hw).trans (hc1 w hw)⟩
      | false =>
        simp only [↓reduceIte, Bool.false_eq_true] at q3 q4 ⊢
        exact Or.inl ⟨by omega, _, _, rfl, by rw [Int.add_zero]; rfl, n, _, _, rfl, rfl, q4, q5, hfr_tr hf1 q6, fun w hw => (q7 w hw).trans (hc1 w hw)⟩
    · simp (disch := omega) only [↓reduceIte, Int.reduceEq, Int.reduceLT, bnd_s, bnd2_s, bnd3_s, hI_lit, hL_lit, hI_add, hI_sub, hI_mul, hI_neg, hI_lt, hI_eq, if_true, if_false, eq_self_iff_true, true_and, and_true, false_and, and_false, decide_eq_true_eq, not_true, not_false_iff, Bool.false_eq_true, Bool.true_eq_false, r_gores hr1, m_0, e0, hi2]
      exact Or.inr ⟨_, _, rfl, rfl, n, _, _, rfl, rfl, hr1, hV1, hf1, hc1⟩
  obtain ⟨r1, r2, q1, q2, n, G1, M1, rfl, rfl, rest⟩ := key
  exact ⟨n, G1, M1, q1, q2, rest⟩
/-- the same of the cloth alone -/
theorem t_wearC {Gs : zG} (hc0 : hC Gs (hm M)) (hr : hR G (hm M)) (h : hV B (hm M)) (hc : hm M 4 % 6 = 0) : ∃ Gs1 n M1, fC_wearAll Gs = some Gs1 ∧ iter (fun s => fM_passesOne_b101 s.1 s.2.1 s.2.2) fu (M, 0, 0) = some (hI n, M1) ∧ hC Gs1 (hm M1) := by
  have h0 := h.1.1
  have h4 := h.1.2.2.2
  have hq := h.2.2.2.2.2.2 4
  have key : ∃ r1 r2, iter (fun s => fC_wearAll_b2 s.1 s.2) fu (Gs, 0) = some r1 ∧ iter (fun s => fM_passesOne_b101 s.1 s.2.1 s.2.2) fu (M, 0, 0) = some r2 ∧ ∃ n M1, r2 = (hI n, M1) ∧ hC r1 (hm M1) := by
    refine it_two (hm M 0).toNat (fun i s1 s2 => ∃ n G1 Gs1 M1, s1 = (Gs1, hI i) ∧ s2 = (M1, hI n, hI i) ∧ hR G1 (hm M1) ∧ hC Gs1 (hm M1) ∧ hV B (hm M1) ∧ (∀ w, w < 26 → hm M1 w = hm M w)) _ (by omega) ⟨0, G, Gs, M, rfl, rfl, hr, hc0, h, fun _ _ => rfl⟩ ?_
    rintro i s1 s2 hi ⟨n, G1, Gs1, M1, rfl, rfl, hr1, hcc, hV1, hc1⟩
    have e0 : hm M1 0 = hm M 0 := hc1 0 (by omega)
    have e4 : hm M1 4 = hm M 4 := hc1 4 (by omega)
    unfold fC_wearAll_b2 fM_passesOne_b101
    dsimp only
    by_cases hi2 : (i : Int) < hm M 0
    · obtain ⟨t, x, G2, G3, M3, q1, q2, q3, q4, q5, q6, q7, q8⟩ := t_wear hr1 hV1 (k := i) (by omega) (by omega)
      have c6 : (hm M 4 - hm M 4 / 6 * 6 = 0) = True := eq_true (by omega)
      have cw := c_wear hcc hV1 (k := i) (by omega) (by omega)
      simp (disch := omega) only [↓reduceIte, Int.reduceEq, Int.reduceLT, bnd_s, bnd2_s, bnd3_s, hI_lit, hL_lit, hI_add, hI_sub, hI_mul, hI_neg, hI_lt, hI_eq, if_true, if_false, eq_self_iff_true, true_and, and_true, false_and, and_false, decide_eq_true_eq, not_true, not_false_iff, Bool.false_eq_true, Bool.true_eq_false, c_gores hcc, m_0, m_4, e0, e4, hi2, q3, hI_div, c6]
      by_cases cz : hm M1 (26 + (i : Int)) = 0
      · rw [if_pos cz] at cw
        rw [cw, bnd2_s]
        exact Or.inl ⟨by omega, _, _, rfl, rfl, _, _, _, _, rfl, rfl, q4, hC_c hcc (fun w hw => by rw [q8 w (by omega), if_pos cz]) (by omega), q5, fun w hw => (q7 w hw).trans (hc1 w hw)⟩
      · rw [if_neg cz] at cw
        rw [cw, bnd2_s]
        have hcn := hC_stitch (v := wv (hm M1) i) (k := (i : Int)) (by omega) (by omega) (by omega) hcc
        refine Or.inl ⟨by omega, _, _, rfl, rfl, _, _, _, _, rfl, rfl, q4, hC_c hcn (fun w hw => by rw [q8 w (by omega), if_neg cz]) (by rw [hu_ne (by omega)]; omega), q5, fun w hw => (q7 w hw).trans (hc1 w hw)⟩
    · simp (disch := omega) only [↓reduceIte, Int.reduceEq, Int.reduceLT, bnd_s, bnd2_s, bnd3_s, hI_lit, hL_lit, hI_add, hI_sub, hI_mul, hI_neg, hI_lt, hI_eq, if_true, if_false, eq_self_iff_true, true_and, and_true, false_and, and_false, decide_eq_true_eq, not_true, not_false_iff, Bool.false_eq_true, Bool.true_eq_false, c_gores hcc, m_0, e0, hi2]
      exact Or.inr ⟨_, _, rfl, rfl, n, _, rfl, hcc⟩
  obtain ⟨r1, r2, q1, q2, n, M1, z1, z2⟩ := key
  subst z1
  exact ⟨r1, n, M1, q1, q2, z2⟩
theorem wearing_d (c1 : 0 ≤ z) (c2 : z < 2147483648) : fG_isWearing (hI z) = decide (z % 6 = 0) := by
  unfold fG_isWearing
  rw [show (6 : Int32) = hI 6 from rfl, show (0 : Int32) = hI 0 from rfl, hI_div (by omega) (by omega) (by omega) (by omega), hI_mul, hI_sub, ieq (by omega) (by omega) (by omega) (by omega)]
  by_cases h : z % 6 = 0
  · rw [decide_eq_true h, if_pos (by omega)]
  · rw [decide_eq_false h, if_neg (by omega)]
/-- what of an hour is left behind the walks -/
def hK2 (G : zG) : Option (Int32 × zG) := if fG_isWearing (gF G 0 2) = true then bnd2 (fG_wearSeams G) fun v G8 => some (v, G8) else some (0, G)
def hK1 (G : zG) : Option (Int32 × zG) := bnd (fG_walkAll G) hK2
/-- what an hour comes to: its answer, and both states -/
def hCl (M M2 : zM) (c : Int) : Prop := ∀ Gs, hC Gs (hm M) → ∃ Gs1, (if c % 6 = 0 then fC_wearAll Gs else some Gs) = some Gs1 ∧ hC Gs1 (hm M2)
def hOut (B : Int) (M : zM) (G1 : Option (Int32 × zG)) (M1 : Option (Int32 × zM)) : Prop := ∃ n G2 M2, G1 = some (hI n, G2) ∧ M1 = some (hI n, M2) ∧ hR G2 (hm M2) ∧ hV B (hm M2) ∧ hfr M M2 ∧ (∀ w, w < 26 → w ≠ 3 → 0 ≤ w → hm M2 w = hm M w) ∧ hCl M M2 (hm M 4)
theorem t_k2 (hr : hR G (hm M)) (h : hV B (hm M)) : hOut B M (hK2 G) (iter (fun s => fM_passesOne_b101 s.1 s.2.1 s.2.2) fu (M, 0, 0)) := by
  have h0 := h.1.1
  have h4 := h.1.2.2.2
  have hq := h.2.2.2.2.2.2 4
  unfold hK2
  rw [r_clock hr, wearing_d (by omega) (by omega)]
  by_cases c : hm M 4 % 6 = 0
  · obtain ⟨n, G1, M1, e1, e2, e3, e4, e5, e6⟩ := t_wearAll hr h c
    rw [decide_eq_true c, if_pos rfl, e1]
    refine ⟨n, G1, M1, rfl, e2, e3, e4, e5, fun w hw _ _ => e6 w hw, fun Gs hgs => ?_⟩
    obtain ⟨Gs1, n', M1', c1, c2, c3⟩ := t_wearC hgs hr h c
    rw [c2] at e2
    have e9 : M1' = M1 := congrArg Prod.snd (Option.some.inj e2)
    rw [e9] at c3
    exact ⟨Gs1, by rw [if_pos c]; exact c1, c3⟩
  · rw [decide_eq_false c, if_neg (by decide)]
    refine ⟨0, G, M, rfl, it_exit ?_, hr, h, hfr_rf, fun _ _ _ _ => rfl, fun Gs hgs => ⟨Gs, by rw [if_neg c], hgs⟩⟩
    unfold fM_passesOne_b101
    dsimp only
    have c6 : (hm M 4 - hm M 4 / 6 * 6 = 0) = False := eq_false (by omega)
    by_cases c0 : 0 < hm M 0 <;> simp (disch := omega) only [↓reduceIte, Int.reduceEq, Int.reduceLT, bnd_s, bnd2_s, bnd3_s, hI_lit, hL_lit, hI_add, hI_sub, hI_mul, hI_neg, hI_lt, hI_eq, if_true, if_false, eq_self_iff_true, true_and, and_true, false_and, and_false, decide_eq_true_eq, not_true, not_false_iff, Bool.false_eq_true, Bool.true_eq_false, m_0, m_4, c0, hI_div, c6]
/-- one traveller walks on -/
theorem t_walk1 (hr : hR G (hm M)) (h : hV B (hm M)) (hB : B < 1000000000) (k1 : 0 ≤ k) (k2 : k < hm M 1) (ht : hm M (38 + 9 * k + 2) = 1) : ∃ G1 M1, iter (fun s => fG_walkAll_b19 (hI k) k.toNat s.1 s.2) fu (G, 0) = some (.inl (G1, hI (k + 1))) ∧ fM_walksOn M (hI k) = some M1 ∧ hR G1 (hm M1) ∧ hV B (hm M1) ∧ hfr M M1 ∧ hct (hm M) (hm M1) := by
  have h0 := h.1.1
  have h1 := h.1.2.1
  have h2 := h.1.2.2.1
  have key : ∃ r1 r2, iter (fun s => fG_walkAll_b19 (hI k) k.toNat s.1 s.2) fu (G, 0) = some r1 ∧ iter (fun s => fM_walksOn_b2 (hI k) s.1 s.2) fu (M, 0) = some r2 ∧ ∃ G1 M1, r1 = .inl (G1, hI (k + 1)) ∧ r2 = M1 ∧ hR G1 (hm M1) ∧ hV B (hm M1) ∧ hfr M M1 ∧ hct (hm M) (hm M1) := by
    refine it_two 10 (fun i s1 s2 => ∃ G1 M1, s1 = (G1, hI i) ∧ s2 = (M1, hI i) ∧ hR G1 (hm M1) ∧ hV B (hm M1) ∧ hfr M M1 ∧ hct (hm M) (hm M1) ∧ hm M1 (38 + 9 * k + 2) = 1) _ (by omega) ⟨G, M, rfl, rfl, hr, h, hfr_rf, hct_rf, ht⟩ ?_
    rintro i s1 s2 hi ⟨G1, M1, rfl, rfl, hr1, hV1, hf1, hc1, ht1⟩
    have e0 : hm M1 0 = hm M 0 := hc1 0 (by omega) (by omega) (by omega)
    have e1 : hm M1 1 = hm M 1 := hc1 1 (by omega) (by omega) (by omega)
    have e2 : hm M1 2 = hm M 2 := hc1 2 (by omega) (by omega) (by omega)
    have hs := hV1.2.2.2.1 k k1 (by omega)
    unfold hVs at hs
    unfold fG_walkAll_b19 fM_walksOn_b2
    dsimp only
    by_cases hi2 : (i : Int) < 10
    · by_cases hl : 0 < hm M1 (38 + 9 * k + 7)
      · obtain ⟨x, x1, x2, x3, x4, -⟩ := t_stepWhy hr1 hV1 k1 (by omega) hs.2.2.2.1
        by_cases hx : x = 0
        · obtain ⟨G3, M3, q1, q2, q3, q4, q5, q6, q7, q8, q9⟩ := t_step hr1 hV1 hB k1 (by omega) hs.2.2.2.1
          have b0 : hm M3 0 = hm M1 0 := q6 0 (by omega) (by omega) (by omega)
          have b1 : hm M3 1 = hm M1 1 := q6 1 (by omega) (by omega) (by omega)
          have b2 : hm M3 2 = hm M1 2 := q6 2 (by omega) (by omega) (by omega)
          simp (disch := omega) only [↓reduceIte, Int.reduceEq, Int.reduceLT, bnd_s, bnd2_s, bnd3_s, hI_lit, hL_lit, hI_add, hI_sub, hI_mul, hI_neg, hI_lt, hI_eq, if_true, if_false, eq_self_iff_true, true_and, and_true, false_and, and_false, decide_eq_true_eq, not_true, not_false_iff, Bool.false_eq_true, Bool.true_eq_false, mrd, mwr, mW_of, mW_0, mW_1, mW_2, mW_3, mW_4, m_0, m_1, m_2, m_3, m_4, hm_mW, hu_same, hu_ne, hw_id, hm_L, m_of, m_its, m_trav, fM_spt, fM_lbl, r_s5 hr1 k1 (show k < hm M1 1 by omega), r_s6 hr1 k1 (show k < hm M1 1 by omega), r_s6 q3 k1 (show k < hm M3 1 by omega), hi2, hl, x3, x4, hx, q1, q2, q9]
          have eM : hm (mW (wmF M3 29 (hI (sTo (hm M1) k (hm M1 (38 + 9 * k + 6))))) (38 + 9 * k + 7) (hm M1 (38 + 9 * k + 7) - 1)) = hu (hm M3) (38 + 9 * k + 7) (hm M1 (38 + 9 * k + 7) - 1) := hm_mW (by omega) (by omega)
          refine Or.inl ⟨by omega, _, _, rfl, rfl, _, _, rfl, rfl, ?_, ?_, ?_, ?_, ?_⟩
          · rw [eM]; exact hR_left (by omega) (by omega) (by omega) k1 (by omega) q3
          · rw [eM]; exact hV_left k1 (by omega) (by omega) (by omega) (Or.inl (by omega)) q4
          · exact hfr_W (hfr_L (hfr_tr hf1 q5))
          · rw [eM]; exact hct_u (by omega) (hct_tr hc1 q6)
          · rw [eM, hu_ne (by omega)]; omega
        · simp (disch := omega) only [↓reduceIte, Int.reduceEq, Int.reduceLT, bnd_s, bnd2_s, bnd3_s, hI_lit, hL_lit, hI_add, hI_sub, hI_mul, hI_neg, hI_lt, hI_eq, if_true, if_false, eq_self_iff_true, true_and, and_true, false_and, and_false, decide_eq_true_eq, not_true, not_false_iff, Bool.false_eq_true, Bool.true_eq_false, mrd, mwr, mW_of, mW_0, mW_1, mW_2, mW_3, mW_4, m_0, m_1, m_2, m_3, m_4, hm_mW, hu_same, hu_ne, hw_id, hm_L, m_of, m_its, m_trav, fM_spt, fM_lbl, r_s5 hr1 k1 (show k < hm M1 1 by omega), r_s6 hr1 k1 (show k < hm M1 1 by omega), hi2, hl, x3, x4, hx]
          have eM : hm (mW M1 (38 + 9 * k + 7) 0) = hu (hm M1) (38 + 9 * k + 7) 0 := hm_mW (by omega) (by omega)
          refine Or.inl ⟨by omega, _, _, rfl, rfl, _, _, rfl, rfl, ?_, ?_, ?_, ?_, ?_⟩
          · rw [eM]; exact hR_left (by omega) (by omega) (by omega) k1 (by omega) hr1
          · rw [eM]; exact hV_left k1 (by omega) (by omega) (by omega) (Or.inl (by omega)) hV1
          · exact hfr_W hf1
          · rw [eM]; exact hct_u (by omega) hc1
          · rw [eM, hu_ne (by omega)]; omega
      · simp (disch := omega) only [↓reduceIte, Int.reduceEq, Int.reduceLT, bnd_s, bnd2_s, bnd3_s, hI_lit, hL_lit, hI_add, hI_sub, hI_mul, hI_neg, hI_lt, hI_eq, if_true, if_false, eq_self_iff_true, true_and, and_true, false_and, and_false, decide_eq_true_eq, not_true, not_false_iff, Bool.false_eq_true, Bool.true_eq_false, mrd, mwr, mW_of, mW_0, mW_1, mW_2, mW_3, mW_4, m_0, m_1, m_2, m_3, m_4, hm_mW, hu_same, hu_ne, hw_id, hm_L, m_of, m_its, m_trav, fM_spt, fM_lbl, r_s6 hr1 k1 (show k < hm M1 1 by omega), hi2, hl]
        exact Or.inr ⟨_, _, rfl, rfl, _, _, rfl, rfl, hr1, hV1, hf1, hc1⟩
    · simp (disch := omega) only [↓reduceIte, Int.reduceEq, Int.reduceLT, bnd_s, bnd2_s, bnd3_s, hI_lit, hL_lit, hI_add, hI_sub, hI_mul, hI_neg, hI_lt, hI_eq, if_true, if_false, eq_self_iff_true, true_and, and_true, false_and, and_false, decide_eq_true_eq, not_true, not_false_iff, Bool.false_eq_true, Bool.true_eq_false, hi2]
      exact Or.inr ⟨_, _, rfl, rfl, _, _, rfl, rfl, hr1, hV1, hf1, hc1⟩
  obtain ⟨r1, r2, q1, q2, G1, M1, z1, z2, rest⟩ := key
  subst z1 z2
  exact ⟨G1, r2, q1, q2, rest⟩
end HHG

/-! ALL TRAVELLERS, DIARIES, AN HOUR, HOURS -/
section HHH
variable {σ τ : Int → Int} {M M1 M2 : zM} {G Go : zG} {z v w k B b m d : Int}
theorem hOut_fr {M0 : zM} {x : Option (Int32 × zG)} {y : Option (Int32 × zM)} (hf : hfr M0 M) (hc : hct (hm M0) (hm M)) (b0 : hm M0 0 ≤ 12) (h : hOut B M x y) : hOut B M0 x y := by
  obtain ⟨n, G2, M2, e1, e2, e3, e4, e5, e6, e7⟩ := h
  refine ⟨n, G2, M2, e1, e2, e3, e4, hfr_tr hf e5, fun w a b c => (e6 w a b c).trans (hc w c (by omega) b), fun Gs hgs => ?_⟩
  have := e7 Gs (hC_c hgs (fun w hw => hc w (by omega) (by omega) (by omega)) b0)
  rw [hc 4 (by omega) (by omega) (by omega)] at this
  exact this
theorem t_k1 (hr : hR G (hm M)) (h : hV B (hm M)) (hB : B < 1000000000) : hOut B M (hK1 G) (iter (fun s => fM_passesOne_b68 s.1 s.2) fu (M, 0)) := by
  have h0 := h.1.1
  have h1 := h.1.2.1
  have h2 := h.1.2.2.1
  have key : ∃ r1 r2, iter (fun s => fG_walkAll_b2 s.1 s.2) fu (G, 0) = some r1 ∧ iter (fun s => fM_passesOne_b68 s.1 s.2) fu (M, 0) = some r2 ∧ hOut B M (hK2 r1) (some r2) := by
    refine it_two (hm M 1).toNat (fun i s1 s2 => ∃ G1 M1, s1 = (G1, hI i) ∧ s2 = (M1, hI i) ∧ hR G1 (hm M1) ∧ hV B (hm M1) ∧ hfr M M1 ∧ hct (hm M) (hm M1)) (fun r1 r2 => hOut B M (hK2 r1) (some r2)) (by omega) ⟨G, M, rfl, rfl, hr, h, hfr_rf, hct_rf⟩ ?_
    rintro i s1 s2 hi ⟨G1, M1, rfl, rfl, hr1, hV1, hf1, hc1⟩
    have e1 : hm M1 1 = hm M 1 := hc1 1 (by omega) (by omega) (by omega)
    unfold fG_walkAll_b2 fM_passesOne_b68
    dsimp only
    by_cases hi2 : (i : Int) < hm M 1
    · have hs := hV1.2.2.2.1 i (by omega) (by omega)
      unfold hVs at hs
      by_cases ht : hm M1 (38 + 9 * (i : Int) + 2) = 1
      · obtain ⟨G3, M3, q1, q2, q3, q4, q5, q6⟩ := t_walk1 hr1 hV1 hB (k := i) (by omega) (by omega) ht
        simp (disch := omega) only [↓reduceIte, Int.reduceEq, Int.reduceLT, bnd_s, bnd2_s, bnd3_s, hI_lit, hL_lit, hI_add, hI_sub, hI_mul, hI_neg, hI_lt, hI_eq, if_true, if_false, eq_self_iff_true, true_and, and_true, false_and, and_false, decide_eq_true_eq, not_true, not_false_iff, Bool.false_eq_true, Bool.true_eq_false, r_spots hr1, m_1, e1, hi2, rix_hI, m_trav, ht, decide_true]
        have q1' : iter (fun s => fG_walkAll_b19 (hI i) (i : Int).toNat s.1 s.2) fu (G1, hI 0) = some (.inl (G3, hI ((i : Int) + 1))) := q1
        rw [q1', q2]
        exact Or.inl ⟨by omega, _, _, rfl, rfl, G3, M3, rfl, rfl, q3, q4, hfr_tr hf1 q5, hct_tr hc1 q6⟩
      · have hl : hm M1 (38 + 9 * (i : Int) + 7) = 0 := by omega
        have q1' : iter (fun s => fG_walkAll_b19 (hI i) (i : Int).toNat s.1 s.2) fu (G1, hI 0) = some (.inl (G1, hI ((i : Int) + 1))) := by
          apply it_exit
          unfold fG_walkAll_b19
          simp (disch := omega) only [↓reduceIte, Int.reduceEq, Int.reduceLT, bnd_s, bnd2_s, bnd3_s, hI_lit, hL_lit, hI_add, hI_sub, hI_mul, hI_neg, hI_lt, hI_eq, if_true, if_false, eq_self_iff_true, true_and, and_true, false_and, and_false, decide_eq_true_eq, not_true, not_false_iff, Bool.false_eq_true, Bool.true_eq_false, r_s6 hr1 (show (0 : Int) ≤ i by omega) (show (i : Int) < hm M1 1 by omega), hl]
        simp (disch := omega) only [↓reduceIte, Int.reduceEq, Int.reduceLT, bnd_s, bnd2_s, bnd3_s, hI_lit, hL_lit, hI_add, hI_sub, hI_mul, hI_neg, hI_lt, hI_eq, if_true, if_false, eq_self_iff_true, true_and, and_true, false_and, and_false, decide_eq_true_eq, not_true, not_false_iff, Bool.false_eq_true, Bool.true_eq_false, r_spots hr1, m_1, e1, hi2, rix_hI, m_trav, ht, decide_false, q1']
        exact Or.inl ⟨by omega, _, _, rfl, rfl, G1, M1, rfl, rfl, hr1, hV1, hf1, hc1⟩
    · have hk := hOut_fr hf1 hc1 h0.2 (t_k2 hr1 hV1)
      obtain ⟨n, G2, M2, z1, z2, z3⟩ := hk
      have z2' : iter (fun s => fM_passesOne_b101 s.1 s.2.1 s.2.2) fu (M1, hI 0, hI 0) = some (hI n, M2) := z2
      simp (disch := omega) only [↓reduceIte, Int.reduceEq, Int.reduceLT, bnd_s, bnd2_s, bnd3_s, hI_lit, hL_lit, hI_add, hI_sub, hI_mul, hI_neg, hI_lt, hI_eq, if_true, if_false, eq_self_iff_true, true_and, and_true, false_and, and_false, decide_eq_true_eq, not_true, not_false_iff, Bool.false_eq_true, Bool.true_eq_false, r_spots hr1, m_1, e1, hi2, z2', Option.map_some]
      exact Or.inr ⟨_, _, rfl, rfl, n, G2, M2, z1, rfl, z3⟩
  obtain ⟨r1, r2, q1, q2, q3⟩ := key
  unfold hK1 fG_walkAll
  rw [q1, q2, bnd_s]
  exact q3
def hK0 (G : zG) : Option (Int32 × zG) := bnd (fG_turnDiaries G) hK1
theorem t_k0 (hr : hR G (hm M)) (h : hV B (hm M)) (hB : B < 1000000000) : hOut B M (hK0 G) (iter (fun s => fM_passesOne_b12 s.1 s.2) fu (M, 0)) := by
  have h0 := h.1.1
  have h1 := h.1.2.1
  have h2 := h.1.2.2.1
  have key : ∃ r1 r2, iter (fun s => fG_turnDiaries_b2 s.1 s.2) fu (G, 0) = some r1 ∧ iter (fun s => fM_passesOne_b12 s.1 s.2) fu (M, 0) = some r2 ∧ hOut B M (hK1 r1) (some r2) := by
    refine it_two (hm M 1).toNat (fun i s1 s2 => ∃ G1 M1, s1 = (G1, hI i) ∧ s2 = (M1, hI i) ∧ hR G1 (hm M1) ∧ hV B (hm M1) ∧ hfr M M1 ∧ hct (hm M) (hm M1)) (fun r1 r2 => hOut B M (hK1 r1) (some r2)) (by omega) ⟨G, M, rfl, rfl, hr, h, hfr_rf, hct_rf⟩ ?_
    rintro i s1 s2 hi ⟨G1, M1, rfl, rfl, hr1, hV1, hf1, hc1⟩
    have e0 : hm M1 0 = hm M 0 := hc1 0 (by omega) (by omega) (by omega)
    have e1 : hm M1 1 = hm M 1 := hc1 1 (by omega) (by omega) (by omega)
    have e2 : hm M1 2 = hm M 2 := hc1 2 (by omega) (by omega) (by omega)
    unfold fG_turnDiaries_b2 fM_passesOne_b12
    dsimp only
    by_cases hi2 : (i : Int) < hm M 1
    · have k1 : (0 : Int) ≤ i := by omega
      have k2 : (i : Int) < hm M1 1 := by omega
      have hs := hV1.2.2.2.1 i k1 k2
      unfold hVs at hs
      by_cases ht : hm M1 (38 + 9 * (i : Int) + 2) = 1
      · have hh := lh_r (b := hm M1 (38 + 9 * (i : Int) + 3)) (m := hm M1 (38 + 9 * (i : Int) + 4)) hV1 hB (by omega) (by omega)
        have g := g_lhr (b := hm M1 (38 + 9 * (i : Int) + 3)) (m := hm M1 (38 + 9 * (i : Int) + 4)) hr1 hV1 hB (by omega) (by omega) (by omega) (by omega)
        by_cases hz : lh (hm M1) (hm M1 (38 + 9 * (i : Int) + 3)) (hm M1 (38 + 9 * (i : Int) + 4)) % 24 = 0
        · simp (disch := omega) only [↓reduceIte, Int.reduceEq, Int.reduceLT, bnd_s, bnd2_s, bnd3_s, hI_lit, hL_lit, hI_add, hI_sub, hI_mul, hI_neg, hI_lt, hI_eq, if_true, if_false, eq_self_iff_true, true_and, and_true, false_and, and_false, decide_eq_true_eq, not_true, not_false_iff, Bool.false_eq_true, Bool.true_eq_false, mrd, mwr, mW_of, mW_0, mW_1, mW_2, mW_3, mW_4, m_0, m_1, m_2, m_3, m_4, hm_mW, hu_same, hu_ne, hw_id, hm_L, m_of, m_its, m_trav, fM_spt, fM_lbl, r_spots hr1, e1, hi2, rix_hI, ht, decide_true, r_trav hr1 k1 k2, r_s2 hr1 k1 k2, r_s3 hr1 k1 k2, r_s4 hr1 k1 k2, g, m_hour hV1 hB k1 k2, hz, fM_passesOne_j55, tr_t]
          refine Or.inl ⟨by omega, _, _, rfl, rfl, _, _, rfl, rfl, ?_, ?_, hfr_W hf1, ?_⟩
          · rw [hm_mW (by omega) (by omega)]; exact hR_diary (by omega) (by omega) (by omega) k1 (by omega) hr1
          · rw [hm_mW (by omega) (by omega)]; exact hV_free (Or.inr ⟨i, k1, by omega, Or.inl rfl⟩) hV1
          · rw [hm_mW (by omega) (by omega)]; exact hct_u (by omega) hc1
        · simp (disch := omega) only [↓reduceIte, Int.reduceEq, Int.reduceLT, bnd_s, bnd2_s, bnd3_s, hI_lit, hL_lit, hI_add, hI_sub, hI_mul, hI_neg, hI_lt, hI_eq, if_true, if_false, eq_self_iff_true, true_and, and_true, false_and, and_false, decide_eq_true_eq, not_true, not_false_iff, Bool.false_eq_true, Bool.true_eq_false, mrd, mwr, mW_of, mW_0, mW_1, mW_2, mW_3, mW_4, m_0, m_1, m_2, m_3, m_4, hm_mW, hu_same, hu_ne, hw_id, hm_L, m_of, m_its, m_trav, fM_spt, fM_lbl, r_spots hr1, e1, hi2, rix_hI, ht, decide_true, r_trav hr1 k1 k2, r_s2 hr1 k1 k2, r_s3 hr1 k1 k2, r_s4 hr1 k1 k2, g, m_hour hV1 hB k1 k2, hz, fM_passesOne_j55, tr_f, Int.add_zero]
          refine Or.inl ⟨by omega, _, _, rfl, rfl, _, _, rfl, rfl, ?_, ?_, hfr_W hf1, ?_⟩
          · rw [hm_mW (by omega) (by omega), hu_self hV1]; exact hr1
          · rw [hm_mW (by omega) (by omega), hu_self hV1]; exact hV1
          · rw [hm_mW (by omega) (by omega), hu_self hV1]; exact hc1
      · simp (disch := omega) only [↓reduceIte, Int.reduceEq, Int.reduceLT, bnd_s, bnd2_s, bnd3_s, hI_lit, hL_lit, hI_add, hI_sub, hI_mul, hI_neg, hI_lt, hI_eq, if_true, if_false, eq_self_iff_true, true_and, and_true, false_and, and_false, decide_eq_true_eq, not_true, not_false_iff, Bool.false_eq_true, Bool.true_eq_false, mrd, mwr, mW_of, mW_0, mW_1, mW_2, mW_3, mW_4, m_0, m_1, m_2, m_3, m_4, hm_mW, hu_same, hu_ne, hw_id, hm_L, m_of, m_its, m_trav, fM_spt, fM_lbl, r_spots hr1, e1, hi2, rix_hI, ht, decide_false, r_trav hr1 k1 k2]
        exact Or.inl ⟨by omega, _, _, rfl, rfl, _, _, rfl, rfl, hr1, hV1, hf1, hc1⟩
    · have hk := hOut_fr hf1 hc1 h0.2 (t_k1 hr1 hV1 hB)
      obtain ⟨n, G2, M2, z1, z2, z3⟩ := hk
      have z2' : iter (fun s => fM_passesOne_b68 s.1 s.2) fu (M1, hI 0) = some (hI n, M2) := z2
      simp (disch := omega) only [↓reduceIte, Int.reduceEq, Int.reduceLT, bnd_s, bnd2_s, bnd3_s, hI_lit, hL_lit, hI_add, hI_sub, hI_mul, hI_neg, hI_lt, hI_eq, if_true, if_false, eq_self_iff_true, true_and, and_true, false_and, and_false, decide_eq_true_eq, not_true, not_false_iff, Bool.false_eq_true, Bool.true_eq_false, r_spots hr1, m_1, e1, hi2, z2', Option.map_some]
      exact Or.inr ⟨_, _, rfl, rfl, n, G2, M2, z1, rfl, z3⟩
  obtain ⟨r1, r2, q1, q2, q3⟩ := key
  unfold hK0 fG_turnDiaries
  rw [q1, q2, bnd_s]
  exact q3
/-- an hour -/
def gHour (G : zG) : Option (Int32 × zG) := bnd (some (wgF G 0 2 ((gF G 0 2) + 1))) hK0
def hOut1 (B : Int) (M : zM) (G1 : Option (Int32 × zG)) (M1 : Option (Int32 × zM)) : Prop := ∃ n G2 M2, G1 = some (hI n, G2) ∧ M1 = some (hI n, M2) ∧ hR G2 (hm M2) ∧ hV (B + 1) (hm M2) ∧ hfr M M2 ∧ (∀ w, w < 26 → w ≠ 3 → w ≠ 4 → 0 ≤ w → hm M2 w = hm M w) ∧ hm M2 4 = hm M 4 + 1 ∧ hCl M M2 (hm M 4 + 1)
theorem t_hour (hr : hR G (hm M)) (h : hV B (hm M)) (hB : B < 999999999) : hOut1 B M (gHour G) (fM_passesOne M) := by
  have h0 := h.1.1
  have h1 := h.1.2.1
  have h2 := h.1.2.2.1
  have h4 := h.1.2.2.2
  have eM : hm (mW M 4 (hm M 4 + 1)) = hu (hm M) 4 (hm M 4 + 1) := hm_mW (by omega) (by omega)
  have hr1 : hR (wgF G 0 2 (hI (hm M 4 + 1))) (hm (mW M 4 (hm M 4 + 1))) := by rw [eM]; exact hR_clock (by omega) (by omega) (by omega) hr
  have hV1 : hV (B + 1) (hm (mW M 4 (hm M 4 + 1))) := by rw [eM]; exact hV_clock (by omega) (by omega) (by omega) h
  obtain ⟨n, G2, M2, e1, e2, e3, e4, e5, e6, e7⟩ := t_k0 hr1 hV1 (by omega)
  refine ⟨n, G2, M2, ?_, ?_, e3, e4, hfr_tr (hfr_W hfr_rf) e5, fun w a b c d => ?_, ?_, fun Gs hgs => ?_⟩
  · unfold gHour
    rw [bnd_s, r_clock hr, show (1 : Int32) = hI 1 from rfl, hI_add]
    exact e1
  · unfold fM_passesOne
    rw [m_4, show (1 : Int32) = hI 1 from rfl, hI_add, mW_4, bnd_s]
    exact e2
  · rw [e6 w a b d, eM, hu_ne c]
  · rw [e6 4 (by omega) (by omega) (by omega), eM, hu_same, hw_id (by omega) (by omega)]
  · have := e7 Gs (hC_c hgs (fun w hw => by rw [eM, hu_ne (by omega)]) h0.2)
    rw [eM, hu_same, hw_id (by omega) (by omega)] at this
    exact this
theorem letPass_b (G : zG) (a1 a2 a3 : Int32) : fG_letPass_b4 a1 G a2 a3 = if a3 < a1 then bnd2 (gHour G) fun v G1 => some (.inl (G1, a2 + v, a3 + 1)) else some (.inr (a2, G)) := by
  unfold fG_letPass_b4
  by_cases h : a3 < a1
  · rw [if_pos h, if_pos h]
    unfold gHour hK0 hK1
    simp only [bnd_s]
    cases e1 : fG_turnDiaries (wgF G 0 2 (gF G 0 2 + 1)) with
    | none => rfl
    | some G4 =>
      simp only [bnd_s]
      cases e2 : fG_walkAll G4 with
      | none => rfl
      | some G6 =>
        simp only [bnd_s]
        unfold hK2
        by_cases c : fG_isWearing (gF G6 0 2) = true
        · rw [if_pos c, if_pos c]
          cases e3 : fG_wearSeams G6 with
          | none => rfl
          | some q => rfl
        · rw [if_neg c, if_neg c, bnd2_s, Int32.add_zero]
  · rw [if_neg h, if_neg h]
def hOutN (B n : Int) (M : zM) (G1 : Option (Int32 × zG)) (M1 : Option (Int32 × zM)) : Prop := ∃ t G2 M2, G1 = some (hI t, G2) ∧ M1 = some (hI t, M2) ∧ hR G2 (hm M2) ∧ hV (B + n) (hm M2) ∧ hfr M M2 ∧ (∀ w, w < 26 → w ≠ 3 → w ≠ 4 → 0 ≤ w → hm M2 w = hm M w)
theorem t_pass {n : Int} (hr : hR G (hm M)) (h : hV B (hm M)) (n1 : 0 ≤ n) (n2 : n ≤ 10000) (hB : B < 999900000) : hOutN B n M (fG_letPass G (hI n)) (fM_passes M (hI n)) := by
  have key : ∃ r1 r2, iter (fun s => fG_letPass_b4 (hI n) s.1 s.2.1 s.2.2) fu (G, 0, 0) = some r1 ∧ iter (fun s => fM_passes_b4 (hI n) s.1 s.2.1 s.2.2) fu (M, 0, 0) = some r2 ∧ ∃ t G2 M2, r1 = (hI t, G2) ∧ r2 = (hI t, M2) ∧ hR G2 (hm M2) ∧ hV (B + n) (hm M2) ∧ hfr M M2 ∧ (∀ w, w < 26 → w ≠ 3 → w ≠ 4 → 0 ≤ w → hm M2 w = hm M w) := by
    refine it_two n.toNat (fun i s1 s2 => ∃ t G2 M2, s1 = (G2, hI t, hI i) ∧ s2 = (M2, hI t, hI i) ∧ hR G2 (hm M2) ∧ hV (B + i) (hm M2) ∧ hfr M M2 ∧ (∀ w, w < 26 → w ≠ 3 → w ≠ 4 → 0 ≤ w → hm M2 w = hm M w)) _ (by omega) ⟨0, G, M, rfl, rfl, hr, hV_le (by omega) h, hfr_rf, fun _ _ _ _ _ => rfl⟩ ?_
    rintro i s1 s2 hi ⟨t, G1, M1, rfl, rfl, hr1, hV1, hf1, hc1⟩
    unfold fM_passes_b4
    dsimp only
    rw [letPass_b, ilt (by omega) (by omega) (by omega) (by omega), ilt (by omega) (by omega) (by omega) (by omega)]
    by_cases c : (i : Int) < n
    · obtain ⟨x, G3, M3, e1, e2, e3, e4, e5, e6, e7⟩ := t_hour hr1 hV1 (by omega)
      rw [if_pos c, if_pos c, e1, e2]
      refine Or.inl ⟨by omega, _, _, rfl, rfl, t + x, G3, M3, ?_, ?_, e3, hV_le (by omega) e4, hfr_tr hf1 e5, fun w a b c d => (e6 w a b c d).trans (hc1 w a b c d)⟩
      · rw [show (1 : Int32) = hI 1 from rfl, hI_add, hI_add]; rfl
      · rw [show (1 : Int32) = hI 1 from rfl, hI_add, hI_add]; rfl
    · rw [if_neg c, if_neg c]
      exact Or.inr ⟨_, _, rfl, rfl, t, G1, M1, rfl, rfl, hr1, hV_le (by omega) hV1, hf1, hc1⟩
  obtain ⟨r1, r2, q1, q2, t, G2, M2, z1, z2, rest⟩ := key
  subst z1 z2
  exact ⟨t, G2, M2, q1, q2, rest⟩
end HHH

/-! ONE MORE LABEL, ONE MORE SPOT, A GLOBE COPIED -/
section HHM
variable {σ τ : Int → Int} {M M1 M2 : zM} {G Go : zG} {z v w k B b m d f : Int} {l : List Int} {I : zI}
theorem hR_label {L : Int} (hr : hR G σ) (h : hV B σ) (q8 : σ 2 < 8) (e_lo : ∀ w, w < 128 → w ≠ 2 → τ w = σ w) (e2 : τ 2 = σ 2 + 1) (e_old : ∀ w, 128 ≤ w → w < 128 + 4 * σ 2 → τ w = σ w) (v0 : τ (128 + 4 * σ 2 + 0) = b) (v1 : τ (128 + 4 * σ 2 + 1) = f) (v2 : τ (128 + 4 * σ 2 + 2) = L) (v3 : τ (128 + 4 * σ 2 + 3) = 0) :
    hR (wgF (wgB (wgF (wgF (wgF G (18 + (σ 2).toNat) 0 (hI b)) (18 + (σ 2).toNat) 1 (hI f)) (18 + (σ 2).toNat) 2 (hI (f + L - 1))) (18 + (σ 2).toNat) false) 0 6 (hI (σ 2 + 1))) τ := by
  have h0 := h.1.1
  have h1 := h.1.2.1
  have h2 := h.1.2.2.1
  obtain ⟨⟨a1, a2, a3, a4, a5⟩, ah, ac, as_, al⟩ := hr
  refine ⟨⟨?_, ?_, ?_, ?_, ?_⟩, ?_, ?_, ?_, ?_⟩
  · rw [e_lo 0 (by omega) (by omega), gF_w, if_neg (by omega), gF_wB, gF_w, if_neg (by omega), gF_w, if_neg (by omega), gF_w, if_neg (by omega)]; exact a1
  · rw [e_lo 4 (by omega) (by omega), gF_w, if_neg (by omega), gF_wB, gF_w, if_neg (by omega), gF_w, if_neg (by omega), gF_w, if_neg (by omega)]; exact a2
  · rw [e_lo 3 (by omega) (by omega), gF_w, if_neg (by omega), gF_wB, gF_w, if_neg (by omega), gF_w, if_neg (by omega), gF_w, if_neg (by omega)]; exact a3
  · rw [e_lo 1 (by omega) (by omega), gF_w, if_neg (by omega), gF_wB, gF_w, if_neg (by omega), gF_w, if_neg (by omega), gF_w, if_neg (by omega)]; exact a4
  · rw [e2, gF_w, if_pos ⟨rfl, rfl⟩]
  · intro b h1 h2
    rw [e_lo _ (by omega) (by omega)]; exact ah b h1 h2
  · intro j h1 h2
    rw [e_lo 0 (by omega) (by omega)] at h2
    have h3 := ac j h1 h2
    unfold hRc at h3 ⊢
    rw [e_lo (14 + j) (by omega) (by omega), e_lo (26 + j) (by omega) (by omega), bg_c (σ := τ) (τ := σ) (fun w h1 h2 => e_lo w (by omega) (by omega))]
    exact h3
  · intro j h1 h2
    rw [e_lo 1 (by omega) (by omega)] at h2
    have h3 := as_ j h1 h2
    unfold hRs at h3 ⊢
    rw [e_lo (38 + 9 * j + 0) (by omega) (by omega), e_lo (38 + 9 * j + 1) (by omega) (by omega), e_lo (38 + 9 * j + 2) (by omega) (by omega), e_lo (38 + 9 * j + 3) (by omega) (by omega), e_lo (38 + 9 * j + 4) (by omega) (by omega), e_lo (38 + 9 * j + 5) (by omega) (by omega), e_lo (38 + 9 * j + 6) (by omega) (by omega), e_lo (38 + 9 * j + 7) (by omega) (by omega), e_lo (38 + 9 * j + 8) (by omega) (by omega)]
    have q : ∀ c, gF (wgF (wgB (wgF (wgF (wgF G (18 + (σ 2).toNat) 0 (hI b)) (18 + (σ 2).toNat) 1 (hI f)) (18 + (σ 2).toNat) 2 (hI (f + L - 1))) (18 + (σ 2).toNat) false) 0 6 (hI (σ 2 + 1))) (7 + j.toNat) c = gF G (7 + j.toNat) c := by
      intro c
      rw [gF_w, if_neg (by omega), gF_wB, gF_w, if_neg (by omega), gF_w, if_neg (by omega), gF_w, if_neg (by omega)]
    have qb : gB (wgF (wgB (wgF (wgF (wgF G (18 + (σ 2).toNat) 0 (hI b)) (18 + (σ 2).toNat) 1 (hI f)) (18 + (σ 2).toNat) 2 (hI (f + L - 1))) (18 + (σ 2).toNat) false) 0 6 (hI (σ 2 + 1))) (7 + j.toNat) = gB G (7 + j.toNat) := by
      rw [gB_w, gB_wB, if_neg (by omega), gB_w, gB_w, gB_w]
    rw [q, q, q, q, q, q, qb]
    exact h3
  · intro j h1 h2
    rw [e2] at h2
    unfold hRl
    by_cases c : j = σ 2
    · subst c
      rw [v0, v1, v2, v3]
      refine ⟨?_, ?_, ?_, ?_⟩
      · rw [gF_w, if_neg (by omega), gF_wB, gF_w, if_neg (by omega), gF_w, if_neg (by omega), gF_w, if_pos ⟨rfl, rfl⟩]
      · rw [gF_w, if_neg (by omega), gF_wB, gF_w, if_neg (by omega), gF_w, if_pos ⟨rfl, rfl⟩]
      · rw [gF_w, if_neg (by omega), gF_wB, gF_w, if_pos ⟨rfl, rfl⟩]
      · rw [gB_w, gB_wB, if_pos rfl]; rfl
    · have h3 := al j h1 (by omega)
      unfold hRl at h3
      have q : ∀ c, gF (wgF (wgB (wgF (wgF (wgF G (18 + (σ 2).toNat) 0 (hI b)) (18 + (σ 2).toNat) 1 (hI f)) (18 + (σ 2).toNat) 2 (hI (f + L - 1))) (18 + (σ 2).toNat) false) 0 6 (hI (σ 2 + 1))) (18 + j.toNat) c = gF G (18 + j.toNat) c := by
        intro c
        rw [gF_w, if_neg (by omega), gF_wB, gF_w, if_neg (by omega), gF_w, if_neg (by omega), gF_w, if_neg (by omega)]
      rw [e_old (128 + 4 * j + 0) (by omega) (by omega), e_old (128 + 4 * j + 1) (by omega) (by omega), e_old (128 + 4 * j + 2) (by omega) (by omega), e_old (128 + 4 * j + 3) (by omega) (by omega), q, q, q, gB_w, gB_wB, if_neg (by omega), gB_w, gB_w, gB_w]
      exact h3
theorem hV_label {L : Int} (h : hV B σ) (q8 : σ 2 < 8) (e_lo : ∀ w, w < 128 → w ≠ 2 → τ w = σ w) (e2 : τ 2 = σ 2 + 1) (e_old : ∀ w, 128 ≤ w → w < 128 + 4 * σ 2 → τ w = σ w) (v0 : τ (128 + 4 * σ 2 + 0) = b) (v1 : τ (128 + 4 * σ 2 + 1) = f) (v2 : τ (128 + 4 * σ 2 + 2) = L) (v3 : τ (128 + 4 * σ 2 + 3) = 0)
    (b1 : 0 ≤ b) (b2 : b < 9) (f1 : 0 ≤ f) (L1 : 1 ≤ L) (fL : f + L ≤ 360) (hd : ∀ j, 0 ≤ j → j < σ 2 → ¬ mt σ j b f (f + L - 1)) (hrr : ∀ w, -2147483648 ≤ τ w ∧ τ w < 2147483648) : hV B τ := by
  obtain ⟨⟨a0, a1, a2, a4⟩, ah, aw, as_, al, ad, ar⟩ := h
  refine ⟨⟨by rw [e_lo 0 (by omega) (by omega)]; exact a0, by rw [e_lo 1 (by omega) (by omega)]; exact a1, by omega, by rw [e_lo 4 (by omega) (by omega)]; exact a4⟩, ?_, ?_, ?_, ?_, ?_, hrr⟩
  · intro b h1 h2
    rw [e_lo _ (by omega) (by omega)]; exact ah b h1 h2
  · intro j h1 h2
    rw [e_lo 0 (by omega) (by omega)] at h2
    rw [e_lo (14 + j) (by omega) (by omega), e_lo (26 + j) (by omega) (by omega), bg_c (σ := τ) (τ := σ) (fun w h1 h2 => e_lo w (by omega) (by omega))]
    exact aw j h1 h2
  · intro j h1 h2
    rw [e_lo 1 (by omega) (by omega)] at h2
    have h3 := as_ j h1 h2
    unfold hVs at h3 ⊢
    rw [e_lo (38 + 9 * j + 2) (by omega) (by omega), e_lo (38 + 9 * j + 3) (by omega) (by omega), e_lo (38 + 9 * j + 4) (by omega) (by omega), e_lo (38 + 9 * j + 6) (by omega) (by omega), e_lo (38 + 9 * j + 7) (by omega) (by omega)]
    exact h3
  · intro j h1 h2
    rw [e2] at h2
    unfold hVl
    by_cases c : j = σ 2
    · subst c
      rw [v0, v1, v2, v3]
      omega
    · rw [e_old (128 + 4 * j + 0) (by omega) (by omega), e_old (128 + 4 * j + 1) (by omega) (by omega), e_old (128 + 4 * j + 2) (by omega) (by omega), e_old (128 + 4 * j + 3) (by omega) (by omega)]
      exact al j h1 (by omega)
  · intro i j h1 h2 h3
    rw [e2] at h3
    rw [e_old (128 + 4 * i + 0) (by omega) (by omega), e_old (128 + 4 * i + 1) (by omega) (by omega), e_old (128 + 4 * i + 2) (by omega) (by omega), e_old (128 + 4 * i + 3) (by omega) (by omega)]
    by_cases c : j = σ 2
    · subst c
      rw [v0, v1, v2, v3]
      intro t1 _ t3
      have hn := hd i h1 h2
      unfold mt at hn
      have hn2 : ¬ (σ (128 + 4 * i + 1) ≤ f + L - 1 ∧ f ≤ σ (128 + 4 * i + 1) + σ (128 + 4 * i + 2) - 1) := fun z => hn ⟨t1, t3, z.1, z.2⟩
      omega
    · rw [e_old (128 + 4 * j + 0) (by omega) (by omega), e_old (128 + 4 * j + 1) (by omega) (by omega), e_old (128 + 4 * j + 2) (by omega) (by omega), e_old (128 + 4 * j + 3) (by omega) (by omega)]
      exact ad i j h1 h2 (by omega)
theorem t_addLabel (hl : hWd l) (hr : hR G (hm M)) (h : hV B (hm M)) (q8 : hm M 2 < 8) (b1 : 0 ≤ b) (b2 : b < 9) (f1 : 0 ≤ f) (fL : f + lg l.length b ≤ 360) (hd : ∀ j, 0 ≤ j → j < hm M 2 → ¬ mt (hm M) j b f (f + lg l.length b - 1)) :
    hOutC B M (fG_sewLabelOn G (hI l.length) (hI b) (hI f)) (fM_addsLabel M (hL (p5 l)) (hI b) (hI f)) := by
  have h2 := h.1.2.2.1
  have h8 := hl.2.1
  have h81 := hl.1
  have hL := lg_r (n := (l.length : Int)) (by omega) (by omega) b1 b2
  have eM : hm (mW (mW (mW (mW (mW M (128 + 4 * hm M 2 + 0) b) (128 + 4 * hm M 2 + 1) f) (128 + 4 * hm M 2 + 2) (lg l.length b)) (128 + 4 * hm M 2 + 3) 0) 2 (hm M 2 + 1)) = hu (hu (hu (hu (hu (hm M) (128 + 4 * hm M 2 + 0) b) (128 + 4 * hm M 2 + 1) f) (128 + 4 * hm M 2 + 2) (lg l.length b)) (128 + 4 * hm M 2 + 3) 0) 2 (hm M 2 + 1) := by
    rw [hm_mW (by omega) (by omega), hm_mW (by omega) (by omega), hm_mW (by omega) (by omega), hm_mW (by omega) (by omega), hm_mW (by omega) (by omega)]
  have e_lo : ∀ w, w < 128 → w ≠ 2 → hm (mW (mW (mW (mW (mW M (128 + 4 * hm M 2 + 0) b) (128 + 4 * hm M 2 + 1) f) (128 + 4 * hm M 2 + 2) (lg l.length b)) (128 + 4 * hm M 2 + 3) 0) 2 (hm M 2 + 1)) w = hm M w := fun w w1 w2 => by
    rw [eM, hu_ne (by omega), hu_ne (by omega), hu_ne (by omega), hu_ne (by omega), hu_ne (by omega)]
  have e2 : hm (mW (mW (mW (mW (mW M (128 + 4 * hm M 2 + 0) b) (128 + 4 * hm M 2 + 1) f) (128 + 4 * hm M 2 + 2) (lg l.length b)) (128 + 4 * hm M 2 + 3) 0) 2 (hm M 2 + 1)) 2 = hm M 2 + 1 := by
    rw [eM, hu_same, hw_id (by omega) (by omega)]
  have e_old : ∀ w, 128 ≤ w → w < 128 + 4 * hm M 2 → hm (mW (mW (mW (mW (mW M (128 + 4 * hm M 2 + 0) b) (128 + 4 * hm M 2 + 1) f) (128 + 4 * hm M 2 + 2) (lg l.length b)) (128 + 4 * hm M 2 + 3) 0) 2 (hm M 2 + 1)) w = hm M w := fun w w1 w2 => by
    rw [eM, hu_ne (by omega), hu_ne (by omega), hu_ne (by omega), hu_ne (by omega), hu_ne (by omega)]
  have v0 : hm (mW (mW (mW (mW (mW M (128 + 4 * hm M 2 + 0) b) (128 + 4 * hm M 2 + 1) f) (128 + 4 * hm M 2 + 2) (lg l.length b)) (128 + 4 * hm M 2 + 3) 0) 2 (hm M 2 + 1)) (128 + 4 * hm M 2 + 0) = b := by
    rw [eM, hu_ne (by omega), hu_ne (by omega), hu_ne (by omega), hu_ne (by omega), hu_same, hw_id (by omega) (by omega)]
  have v1 : hm (mW (mW (mW (mW (mW M (128 + 4 * hm M 2 + 0) b) (128 + 4 * hm M 2 + 1) f) (128 + 4 * hm M 2 + 2) (lg l.length b)) (128 + 4 * hm M 2 + 3) 0) 2 (hm M 2 + 1)) (128 + 4 * hm M 2 + 1) = f := by
    rw [eM, hu_ne (by omega), hu_ne (by omega), hu_ne (by omega), hu_same, hw_id (by omega) (by omega)]
  have v2 : hm (mW (mW (mW (mW (mW M (128 + 4 * hm M 2 + 0) b) (128 + 4 * hm M 2 + 1) f) (128 + 4 * hm M 2 + 2) (lg l.length b)) (128 + 4 * hm M 2 + 3) 0) 2 (hm M 2 + 1)) (128 + 4 * hm M 2 + 2) = lg l.length b := by
    rw [eM, hu_ne (by omega), hu_ne (by omega), hu_same, hw_id (by omega) (by omega)]
  have v3 : hm (mW (mW (mW (mW (mW M (128 + 4 * hm M 2 + 0) b) (128 + 4 * hm M 2 + 1) f) (128 + 4 * hm M 2 + 2) (lg l.length b)) (128 + 4 * hm M 2 + 3) 0) 2 (hm M 2 + 1)) (128 + 4 * hm M 2 + 3) = 0 := by
    rw [eM, hu_ne (by omega), hu_same, hw_id (by omega) (by omega)]
  refine ⟨hm M 2, _, _, ?_, ?_, hR_label hr h q8 e_lo e2 e_old v0 v1 v2 v3, hV_label h q8 e_lo e2 e_old v0 v1 v2 v3 b1 b2 f1 (by omega) fL hd (fun w => hm_r), hfr_W (hfr_W (hfr_W (hfr_W (hfr_W hfr_rf)))), e_lo 0 (by omega) (by omega), e_lo 1 (by omega) (by omega)⟩
  · unfold fG_sewLabelOn fG_hasRoomForLabel
    have g6 : ∀ x y : Int32, gF (wgB (wgF (wgF (wgF G (18 + (hm M 2).toNat) 0 (hI b)) (18 + (hm M 2).toNat) 1 x) (18 + (hm M 2).toNat) 2 y) (18 + (hm M 2).toNat) false) 0 6 = hI (hm M 2) := by
      intro x y
      rw [gF_wB, gF_w, if_neg (by omega), gF_w, if_neg (by omega), gF_w, if_neg (by omega), r_labels hr]
    have g6' : ∀ (G1 : zG) (x : Int32), gF (wgF G1 0 6 x) 0 6 = x := fun G1 x => by rw [gF_w, if_pos ⟨rfl, rfl⟩]
    rw [g_lastOf b1 b2]
    simp (disch := omega) only [↓reduceIte, Int.reduceEq, Int.reduceLT, bnd_s, bnd2_s, bnd3_s, hI_lit, hL_lit, hI_add, hI_sub, hI_mul, hI_neg, hI_lt, hI_eq, if_true, if_false, eq_self_iff_true, true_and, and_true, false_and, and_false, decide_eq_true_eq, not_true, not_false_iff, Bool.false_eq_true, Bool.true_eq_false, r_labels hr, q8, rix_hI, g6, g6']
    congr 3
    omega
  · unfold fM_addsLabel
    simp (disch := omega) only [↓reduceIte, Int.reduceEq, Int.reduceLT, bnd_s, bnd2_s, bnd3_s, hI_lit, hL_lit, hI_add, hI_sub, hI_mul, hI_neg, hI_lt, hI_eq, if_true, if_false, eq_self_iff_true, true_and, and_true, false_and, and_false, decide_eq_true_eq, not_true, not_false_iff, Bool.false_eq_true, Bool.true_eq_false, m_2, fM_lbl, mwr, mW_of, m_len hl, m_longBy b1 b2, eM, mW_2, hm_mW, hu_ne, hu_same, hw_id]
    congr 3
    omega
end HHM

/-! LINES OF A DESCRIPTION: LABELS, SPOTS, WALKS -/
section HIF
variable {M M1 M2 : zM} {I I1 I2 : zI} {G : zG} {B n p p0 q k v x c lo hi : Int} {l : List Int}
theorem wlF (hl : hWd l) : (hL (p8 l) = hL 0) = False := by
  have h1 := p8_pos hl
  have h2 := p8_b hl
  rw [hL_eq (by omega) (by omega) (by omega) (by omega)]
  exact eq_false (by omega)
theorem l_label (h : hAt n p I M) (hk : iF I 4 = hI 1) (hr : hR G (hm M)) (hv : hV B (hm M)) : LO B n p M (fD_readLabel I G) (fM_labelLine M) := by
  have h0 := hv.1
  have rl := r_labels hr
  have m0 : mA M 249 2 = hI (hm M 2) := m_2
  have g0 := at_good h
  unfold fD_readLabel fM_labelLine fM_labelLine_j28 fM_labelLine_j69 fM_beginsLine fM_beginsLine_j10 fG_hasRoomForLabel
  by_cases q8 : hm M 2 < 8
  · have r1 : (hI (hm M 2) < hI 8) = True := by rw [hI_lt (by omega) (by omega) (by omega) (by omega)]; exact eq_true q8
    have r2 : (hI (hm M 2) = hI 8) = False := by rw [hI_eq (by omega) (by omega) (by omega) (by omega)]; exact eq_false (by omega)
    obtain ⟨M8, g1, g2, g3⟩ := t_go h
    have e8 := fGo_hm g3
    rcases t_word1 g2 with ⟨l, p1, I1, hl, a1, a2, a3, a4, a5, a6⟩ | ⟨I1, M9, w, a1, a2, a3, a4⟩
    · obtain ⟨M9, b1, b2, b3⟩ := t_go a3
      have wc := w_count hl
      have h8 := hl.2.1
      have h81 := hl.1
      have n0 := zvF (v := (l.length : Int)) (by omega) (by omega)
      have gg := at_good a3
      rcases t_more (lo := 0) (hi := 8) b2 (by omega) (by omega) (by omega) (by omega) with ⟨v, p2, I2, M10, v1, v2, c1, c2, c3, c4, c5⟩ | ⟨I2, M10, w, c1, c2, c3, c4⟩
      · have nv := nvF v1 (by omega)
        rcases t_stays (lo := 0) (hi := 359) c3 (by omega) (by omega) (by omega) (by omega) with ⟨u, p3, I3, u1, u2, d1, d2, d3, d5, d4⟩ | ⟨I3, M11, w, d1, d2, d3, d4⟩
        · have nu := nvF u1 (by omega)
          have e9 : hm M10 = hm M := (fGo_hm c5).trans ((fGo_hm b3).trans e8)
          have hr9 : hR G (hm M10) := by rw [e9]; exact hr
          have hv9 : hV B (hm M10) := by rw [e9]; exact hv
          have g := at_good d3
          obtain ⟨x, x1, x2, y1, y2, y3⟩ := t_labelWhy (b := v) (f := u) hl hr9 hv9 v1 (by omega) u1 (by omega)
          by_cases cx : x = 0
          · obtain ⟨y4, y5⟩ := y3 cx
            obtain ⟨m', G2, M2, z1, z2, z3, z4, z5, z6⟩ := t_addLabel (b := v) (f := u) hl hr9 hv9 (by rw [e9]; exact q8) v1 (by omega) u1 y4 y5
            have f := hfr_L (x := hI m') z5
            obtain ⟨M3, k1, k2, k3⟩ := t_go (at_fr d3 f)
            subst cx
            exact LO_ok (I1 := I3) (G1 := G2) (M1 := M3) (p1 := p3) (by simp only [hI_lit, hL_lit, hI_neg, hI_add, hI_sub, bnd_s, bnd2_s, bnd3_s, ↓reduceIte, eq_self, if_true, if_false, Bool.false_eq_true, Bool.true_eq_false, rl, r1, a1, wc, n0, c1, nv, d1, nu, y1, z1]) (by simp only [hI_lit, hL_lit, hI_neg, hI_add, hI_sub, bnd_s, bnd2_s, bnd3_s, ↓reduceIte, eq_self, if_true, if_false, Bool.false_eq_true, Bool.true_eq_false, m0, r2, g0, g1, a2, gg, b1, c2, d2, g, y2, z2, k1]) (fRd_tr (fRd_go (fGo_tr (fGo_tr g3 b3) c5)) (fRd_tr (fRd_fr f) (fRd_go k3))) (by omega) k2 (by rw [fGo_hm k3]; exact z3) (by rw [fGo_hm k3]; exact z4) (by rw [fGo_hm k3, ← e9]; exact z6.1)
          · have nx := zvF (v := x) (by omega) (by omega)
            obtain ⟨I4, M3, k1, k2, k3, k4⟩ := t_fail d3 (c := 5) (by omega) (by omega) (fun z => by rw [d5] at z; exact absurd z (by decide))
            have g' := er_good k3
            exact LO_bad (I1 := I4) (G1 := G) (M1 := M3) (by simp only [hI_lit, hL_lit, hI_neg, hI_add, hI_sub, bnd_s, bnd2_s, bnd3_s, ↓reduceIte, eq_self, if_true, if_false, Bool.false_eq_true, Bool.true_eq_false, rl, r1, a1, wc, n0, c1, nv, d1, nu, y1, nx, k1]) (by simp only [hI_lit, hL_lit, hI_neg, hI_add, hI_sub, bnd_s, bnd2_s, bnd3_s, ↓reduceIte, eq_self, if_true, if_false, Bool.false_eq_true, Bool.true_eq_false, m0, r2, g0, g1, a2, gg, b1, c2, d2, g, y2, nx, k2, g']) (fGo_tr (fGo_tr (fGo_tr g3 b3) c5) k4) k3
        · have g := er_good d3
          exact LO_bad (I1 := I3) (G1 := G) (M1 := M11) (by simp only [hI_lit, hL_lit, hI_neg, hI_add, hI_sub, bnd_s, bnd2_s, bnd3_s, ↓reduceIte, eq_self, if_true, if_false, Bool.false_eq_true, Bool.true_eq_false, rl, r1, a1, wc, n0, c1, nv, d1]) (by simp only [hI_lit, hL_lit, hI_neg, hI_add, hI_sub, bnd_s, bnd2_s, bnd3_s, ↓reduceIte, eq_self, if_true, if_false, Bool.false_eq_true, Bool.true_eq_false, m0, r2, g0, g1, a2, gg, b1, c2, d2, g]) (fGo_tr (fGo_tr (fGo_tr g3 b3) c5) d4) d3
      · have g := er_good c3
        exact LO_bad (I1 := I2) (G1 := G) (M1 := M10) (by simp only [hI_lit, hL_lit, hI_neg, hI_add, hI_sub, bnd_s, bnd2_s, bnd3_s, ↓reduceIte, eq_self, if_true, if_false, Bool.false_eq_true, Bool.true_eq_false, rl, r1, a1, wc, n0, c1]) (by simp only [hI_lit, hL_lit, hI_neg, hI_add, hI_sub, bnd_s, bnd2_s, bnd3_s, ↓reduceIte, eq_self, if_true, if_false, Bool.false_eq_true, Bool.true_eq_false, m0, r2, g0, g1, a2, gg, b1, c2, b_stays g, g]) (fGo_tr (fGo_tr g3 b3) c4) c3
    · have g := er_good a3
      have wc : fW_letterCount (hL 0) = some (hI 0) := w_count0
      exact LO_bad (I1 := I1) (G1 := G) (M1 := M9) (by simp only [hI_lit, hL_lit, hI_neg, hI_add, hI_sub, bnd_s, bnd2_s, bnd3_s, ↓reduceIte, eq_self, if_true, if_false, Bool.false_eq_true, Bool.true_eq_false, rl, r1, a1, wc]) (by simp only [hI_lit, hL_lit, hI_neg, hI_add, hI_sub, bnd_s, bnd2_s, bnd3_s, ↓reduceIte, eq_self, if_true, if_false, Bool.false_eq_true, Bool.true_eq_false, m0, r2, g0, g1, a2, g, b_more g, b_stays g]) (fGo_tr g3 a4) a3
  · have r1 : (hI (hm M 2) < hI 8) = False := by rw [hI_lt (by omega) (by omega) (by omega) (by omega)]; exact eq_false q8
    have r2 : hm M 2 = 8 := by omega
    obtain ⟨I1, M1, k1, k2, k3, k4⟩ := t_fail h (c := 4) (by omega) (by omega) (fun z => by rw [hk] at z; exact absurd z (by decide))
    have g := er_good k3
    rw [r2] at m0
    exact LO_bad (I1 := I1) (G1 := G) (M1 := M1) (by simp only [hI_lit, hL_lit, hI_neg, hI_add, hI_sub, bnd_s, bnd2_s, bnd3_s, ↓reduceIte, eq_self, if_true, if_false, Bool.false_eq_true, Bool.true_eq_false, rl, r1, k1]) (by simp only [hI_lit, hL_lit, hI_neg, hI_add, hI_sub, bnd_s, bnd2_s, bnd3_s, ↓reduceIte, eq_self, if_true, if_false, Bool.false_eq_true, Bool.true_eq_false, m0, k2, g, b_word g, b_more g, b_stays g]) k4 k3
theorem l_spot {t : Int} (t1 : t = 0 ∨ t = 1) (h : hAt n p I M) (hk : iF I 4 = hI 1) (hr : hR G (hm M)) (hv : hV B (hm M)) (hB : B < 999000000) : LO B n p M (fD_readSpot I G (decide (t = 1))) (fM_spotLine M (hI t)) := by
  have h0 := hv.1
  have rl := r_spots hr
  have m0 : mA M 249 1 = hI (hm M 1) := m_1
  have g0 := at_good h
  unfold fD_readSpot fM_spotLine fM_spotLine_j38 fM_spotLine_j49 fM_beginsLine fM_beginsLine_j10 fG_hasRoomForSpot
  by_cases q8 : hm M 1 < 10
  · have r1 : (hI (hm M 1) < hI 10) = True := by rw [hI_lt (by omega) (by omega) (by omega) (by omega)]; exact eq_true q8
    have r2 : (hI (hm M 1) = hI 10) = False := by rw [hI_eq (by omega) (by omega) (by omega) (by omega)]; exact eq_false (by omega)
    obtain ⟨M8, g1, g2, g3⟩ := t_go h
    have e8 := fGo_hm g3
    rcases t_word1 g2 with ⟨l, p1, I1, hl, a1, a2, a3, a4, a5, a6⟩ | ⟨I1, M9, w, a1, a2, a3, a4⟩
    · have hr8 : hR G (hm M8) := by rw [e8]; exact hr
      have hv8 : hV B (hm M8) := by rw [e8]; exact hv
      have wl := wlF hl
      have gg := at_good a3
      obtain ⟨x, x1, x2, x3, x4⟩ := t_named hl hr8 hv8
      rw [e8] at x4
      by_cases cx : x = -1
      · subst cx
        obtain ⟨M9, b1, b2, b3⟩ := t_go a3
        rcases t_more (lo := 0) (hi := 8) b2 (by omega) (by omega) (by omega) (by omega) with ⟨v, p2, I2, M10, v1, v2, c1, c2, c3, c4, c5⟩ | ⟨I2, M10, w, c1, c2, c3, c4⟩
        · have nv := nvF v1 (by omega)
          rcases t_more (lo := 0) (hi := 359) c3 (by omega) (by omega) (by omega) (by omega) with ⟨u, p3, I3, M11, u1, u2, d1, d2, d3, d4, d5⟩ | ⟨I3, M11, w, d1, d2, d3, d4⟩
          · have nu := nvF u1 (by omega)
            have e9 : hm M11 = hm M := (fGo_hm d5).trans ((fGo_hm c5).trans ((fGo_hm b3).trans e8))
            have hr9 : hR G (hm M11) := by rw [e9]; exact hr
            have hv9 : hV B (hm M11) := by rw [e9]; exact hv
            have g := ah_good d3
            obtain ⟨m', G2, M2, z1, z2, z3, z4, z5, z6⟩ := t_addSpot (t := t) (b := v) (m := u) hl hr9 hv9 (by omega) (by rw [e9]; exact q8) t1 v1 (by omega) u1 (by omega)
            have f := hfr_L (x := hI m') z5
            exact LO_ok (I1 := I3) (G1 := G2) (M1 := wmF M2 29 (hI m')) (p1 := p3) (by simp only [hI_lit, hL_lit, hI_neg, hI_add, hI_sub, bnd_s, bnd2_s, bnd3_s, ↓reduceIte, eq_self, if_true, if_false, Bool.false_eq_true, Bool.true_eq_false, rl, r1, a1, wl, x1, c1, nv, d1, nu, z1]) (by simp only [hI_lit, hL_lit, hI_neg, hI_add, hI_sub, bnd_s, bnd2_s, bnd3_s, ↓reduceIte, eq_self, if_true, if_false, Bool.false_eq_true, Bool.true_eq_false, m0, r2, g0, g1, a2, gg, x2, b1, c2, d2, g, z2]) (fRd_tr (fRd_go (fGo_tr (fGo_tr (fGo_tr g3 b3) c5) d5)) (fRd_fr f)) (by omega) (ah_fr d3 f) z3 z4 (z6.trans (by rw [e9]))
          · have g := er_good d3
            exact LO_bad (I1 := I3) (G1 := G) (M1 := M11) (by simp only [hI_lit, hL_lit, hI_neg, hI_add, hI_sub, bnd_s, bnd2_s, bnd3_s, ↓reduceIte, eq_self, if_true, if_false, Bool.false_eq_true, Bool.true_eq_false, rl, r1, a1, wl, x1, c1, nv, d1]) (by simp only [hI_lit, hL_lit, hI_neg, hI_add, hI_sub, bnd_s, bnd2_s, bnd3_s, ↓reduceIte, eq_self, if_true, if_false, Bool.false_eq_true, Bool.true_eq_false, m0, r2, g0, g1, a2, gg, x2, b1, c2, d2, g]) (fGo_tr (fGo_tr (fGo_tr g3 b3) c5) d4) d3
        · have g := er_good c3
          exact LO_bad (I1 := I2) (G1 := G) (M1 := M10) (by simp only [hI_lit, hL_lit, hI_neg, hI_add, hI_sub, bnd_s, bnd2_s, bnd3_s, ↓reduceIte, eq_self, if_true, if_false, Bool.false_eq_true, Bool.true_eq_false, rl, r1, a1, wl, x1, c1]) (by simp only [hI_lit, hL_lit, hI_neg, hI_add, hI_sub, bnd_s, bnd2_s, bnd3_s, ↓reduceIte, eq_self, if_true, if_false, Bool.false_eq_true, Bool.true_eq_false, m0, r2, g0, g1, a2, gg, x2, b1, c2, b_more g, g]) (fGo_tr (fGo_tr g3 b3) c4) c3
      · have nx := nvF (v := x) (by omega) (by omega)
        obtain ⟨I4, M3, k1, k2, k3, k4⟩ := t_fail a3 (c := 3) (by omega) (by omega) (fun z => by rw [a4] at z; exact absurd z (by decide))
        have g' := er_good k3
        exact LO_bad (I1 := I4) (G1 := G) (M1 := M3) (by simp only [hI_lit, hL_lit, hI_neg, hI_add, hI_sub, bnd_s, bnd2_s, bnd3_s, ↓reduceIte, eq_self, if_true, if_false, Bool.false_eq_true, Bool.true_eq_false, rl, r1, a1, wl, x1, nx, k1]) (by simp only [hI_lit, hL_lit, hI_neg, hI_add, hI_sub, bnd_s, bnd2_s, bnd3_s, ↓reduceIte, eq_self, if_true, if_false, Bool.false_eq_true, Bool.true_eq_false, m0, r2, g0, g1, a2, gg, x2, nx, k2, g', b_more g']) (fGo_tr g3 k4) k3
    · have g := er_good a3
      exact LO_bad (I1 := I1) (G1 := G) (M1 := M9) (by simp only [hI_lit, hL_lit, hI_neg, hI_add, hI_sub, bnd_s, bnd2_s, bnd3_s, ↓reduceIte, eq_self, if_true, if_false, Bool.false_eq_true, Bool.true_eq_false, rl, r1, a1]) (by simp only [hI_lit, hL_lit, hI_neg, hI_add, hI_sub, bnd_s, bnd2_s, bnd3_s, ↓reduceIte, eq_self, if_true, if_false, Bool.false_eq_true, Bool.true_eq_false, m0, r2, g0, g1, a2, g, b_more g]) (fGo_tr g3 a4) a3
  · have r1 : (hI (hm M 1) < hI 10) = False := by rw [hI_lt (by omega) (by omega) (by omega) (by omega)]; exact eq_false q8
    have r2 : hm M 1 = 10 := by omega
    obtain ⟨I1, M1, k1, k2, k3, k4⟩ := t_fail h (c := 4) (by omega) (by omega) (fun z => by rw [hk] at z; exact absurd z (by decide))
    have g := er_good k3
    rw [r2] at m0
    exact LO_bad (I1 := I1) (G1 := G) (M1 := M1) (by simp only [hI_lit, hL_lit, hI_neg, hI_add, hI_sub, bnd_s, bnd2_s, bnd3_s, ↓reduceIte, eq_self, if_true, if_false, Bool.false_eq_true, Bool.true_eq_false, rl, r1, k1]) (by simp only [hI_lit, hL_lit, hI_neg, hI_add, hI_sub, bnd_s, bnd2_s, bnd3_s, ↓reduceIte, eq_self, if_true, if_false, Bool.false_eq_true, Bool.true_eq_false, m0, k2, g, b_word g, b_more g]) k4 k3
theorem l_walk (h : hAt n p I M) (hr : hR G (hm M)) (hv : hV B (hm M)) : LO B n p M (fD_readWalk I G) (fM_walkLine M) := by
  have h0 := hv.1
  obtain ⟨M8, g1, g2, g3⟩ := t_go h
  have e8 := fGo_hm g3
  unfold fD_readWalk fM_walkLine fM_walkLine_j25 fM_walkLine_j43 fM_walkLine_j63 fM_walkLine_j74 fM_directionHere fM_directionHere_j32 fD_readWalk_j81 fD_readWalk_j120
  rcases t_word1 g2 with ⟨l, p1, I1, hl, a1, a2, a3, a4, a5, a6⟩ | ⟨I1, M9, w, a1, a2, a3, a4⟩
  · have hr8 : hR G (hm M8) := by rw [e8]; exact hr
    have hv8 : hV B (hm M8) := by rw [e8]; exact hv
    have wl := wlF hl
    have gg := at_good a3
    obtain ⟨x, x1, x2, x3, x4⟩ := t_named hl hr8 hv8
    rw [e8] at x4
    by_cases cx : x = -1
    · subst cx
      obtain ⟨I4, M3, k1, k2, k3, k4⟩ := t_fail a3 (c := 4) (by omega) (by omega) (fun z => by rw [a4] at z; exact absurd z (by decide))
      have g' := er_good k3
      exact LO_bad (I1 := I4) (G1 := G) (M1 := M3) (by simp only [hI_lit, hL_lit, hI_neg, hI_add, hI_sub, bnd_s, bnd2_s, bnd3_s, ↓reduceIte, eq_self, if_true, if_false, Bool.false_eq_true, Bool.true_eq_false, a1, wl, x1, k1]) (by simp only [hI_lit, hL_lit, hI_neg, hI_add, hI_sub, bnd_s, bnd2_s, bnd3_s, ↓reduceIte, eq_self, if_true, if_false, Bool.false_eq_true, Bool.true_eq_false, g1, a2, gg, x2, k2, g', b_more g']) (fGo_tr g3 k4) k3
    · have nx := nvF (v := x) (by omega) (by omega)
      have rx : rix 10 (hI x) = some x.toNat := rix_hI (by omega) (by omega) (by omega)
      have tb := r_trav hr (k := x) (by omega) x4
      have tm := m_trav (M := M8) (k := x) (by omega) (by omega)
      rw [e8] at tm
      by_cases ct : hm M (38 + 9 * x + 2) = 1
      · rw [decide_eq_true ct] at tb tm
        obtain ⟨M9, b1, b2, b3⟩ := t_go a3
        have b9 := ah_good b2
        rcases t_word2 b2 with ⟨l', p2, I2, hl', f1, f3, f4, f5, f6⟩ | ⟨I2, I3, M10, f1, f2, f3, f4, f5, f6⟩
        · have gf := at_good f3
          have ke := t_kw f3 [5, 1, 19, 20] (c8 := 1700885364) (c5 := 165492) ⟨by decide, by decide, by decide⟩ rfl rfl
          have kw := t_kw f3 [23, 5, 19, 20] (c8 := 2003137396) (c5 := 759412) ⟨by decide, by decide, by decide⟩ rfl rfl
          rw [f5] at ke kw
          have go : ∀ d : Int, (d = 0 ∨ d = 1) → ∀ M10, fM_goOnRead M9 = some M10 → hAh n p2 I2 M10 → fGo M9 M10 → LO B n p M (bnd2 (fI_expectNumber I2 (hI 0) (hI 359)) fun v4 I3 => if v4 = hI (-1) then some (false, I3, G) else bnd2 (fP_setOut G x.toNat (hI d) v4) fun v8 G7 => some (true, I3, G7)) (bnd2 (fM_more M10 (hI 0) (hI 359)) fun v14 M13 => if fM_isGood M13 = true then bnd2 (fM_tells M13 (hI x) (hI d) v14) fun v17 M16 => bnd (some (wmF M16 29 v17)) fun M19 => some M19 else some M13) := by
            intro d hd M10 s1 s2 s3
            rcases t_more (lo := 0) (hi := 359) s2 (by omega) (by omega) (by omega) (by omega) with ⟨u, p3, I3, M11, u1, u2, d1, d2, d3, d4, d5⟩ | ⟨I3, M11, w, d1, d2, d3, d4⟩
            · have nu := nvF u1 (by omega)
              have e9 : hm M11 = hm M := (fGo_hm d5).trans ((fGo_hm s3).trans ((fGo_hm b3).trans e8))
              have hr9 : hR G (hm M11) := by rw [e9]; exact hr
              have hv9 : hV B (hm M11) := by rw [e9]; exact hv
              have g := ah_good d3
              obtain ⟨m', G2, M2, z1, z2, z3, z4, z5, z6⟩ := t_tell (k := x) (y := d) (z := u) hr9 hv9 (by omega) (by rw [e9]; exact x4) (by rw [e9]; exact ct) hd u1 (by omega)
              have f := hfr_L (x := hI m') z5
              exact LO_ok (I1 := I3) (G1 := G2) (M1 := wmF M2 29 (hI m')) (p1 := p3) (by simp only [hI_lit, hL_lit, hI_neg, hI_add, hI_sub, bnd_s, bnd2_s, bnd3_s, ↓reduceIte, eq_self, if_true, if_false, Bool.false_eq_true, Bool.true_eq_false, d1, nu, z1]) (by simp only [hI_lit, hL_lit, hI_neg, hI_add, hI_sub, bnd_s, bnd2_s, bnd3_s, ↓reduceIte, eq_self, if_true, if_false, Bool.false_eq_true, Bool.true_eq_false, d2, g, z2]) (fRd_tr (fRd_go (fGo_tr (fGo_tr (fGo_tr g3 b3) s3) d5)) (fRd_fr f)) (by omega) (ah_fr d3 f) z3 z4 (z6.1.trans (by rw [e9]))
            · have g := er_good d3
              exact LO_bad (I1 := I3) (G1 := G) (M1 := M11) (by simp only [hI_lit, hL_lit, hI_neg, hI_add, hI_sub, bnd_s, bnd2_s, bnd3_s, ↓reduceIte, eq_self, if_true, if_false, Bool.false_eq_true, Bool.true_eq_false, d1]) (by simp only [hI_lit, hL_lit, hI_neg, hI_add, hI_sub, bnd_s, bnd2_s, bnd3_s, ↓reduceIte, eq_self, if_true, if_false, Bool.false_eq_true, Bool.true_eq_false, d2, g]) (fGo_tr (fGo_tr (fGo_tr g3 b3) s3) d4) d3
          obtain ⟨M10, s1, s2, s3⟩ := t_go f3
          rcases ke with ⟨ke1, ke2⟩ | ⟨ke1, ke2⟩
          · rcases kw with ⟨kw1, kw2⟩ | ⟨kw1, kw2⟩
            · rw [ke1] at kw1
              exact absurd kw1 (by decide)
            · have w := go 0 (Or.inl rfl) M10 s1 s2 s3
              have k1 : (hL (p8 l') = hL 1700885364) = True := eq_true ke1
              have k2 : fM_truth false = hI 0 := rfl
              have k3 : b2i false = hI 0 := rfl
              have k4 : fM_isWord M9 (hL 165492) = true := ke2
              have k5 : fM_isWord M9 (hL 759412) = false := kw2
              simp only [hI_lit, hL_lit, hI_neg, hI_add, hI_sub, bnd_s, bnd2_s, bnd3_s, ↓reduceIte, eq_self, if_true, if_false, Bool.false_eq_true, Bool.true_eq_false] at w
              simp only [hI_lit, hL_lit, hI_neg, hI_add, hI_sub, bnd_s, bnd2_s, bnd3_s, ↓reduceIte, eq_self, if_true, if_false, Bool.false_eq_true, Bool.true_eq_false, g1, a1, a2, wl, gg, x1, x2, nx, rx, tb, tm, b1, b9, f1, gf, k4, k5, s1, k1, k2, k3]
              exact w
          · have k6 : (hL (p8 l') = hL 1700885364) = False := eq_false ke1
            have k4 : fM_isWord M9 (hL 165492) = false := ke2
            rcases kw with ⟨kw1, kw2⟩ | ⟨kw1, kw2⟩
            · have w := go 1 (Or.inr rfl) M10 s1 s2 s3
              have k1 : (hL (p8 l') = hL 2003137396) = True := eq_true kw1
              have k2 : fM_truth true = hI 1 := rfl
              have k3 : b2i true = hI 1 := rfl
              have k5 : fM_isWord M9 (hL 759412) = true := kw2
              simp only [hI_lit, hL_lit, hI_neg, hI_add, hI_sub, bnd_s, bnd2_s, bnd3_s, ↓reduceIte, eq_self, if_true, if_false, Bool.false_eq_true, Bool.true_eq_false] at w
              simp only [hI_lit, hL_lit, hI_neg, hI_add, hI_sub, bnd_s, bnd2_s, bnd3_s, ↓reduceIte, eq_self, if_true, if_false, Bool.false_eq_true, Bool.true_eq_false, g1, a1, a2, wl, gg, x1, x2, nx, rx, tb, tm, b1, b9, f1, gf, k4, k5, s1, k6, k1, k2, k3]
              exact w
            · have k1 : (hL (p8 l') = hL 2003137396) = False := eq_false kw1
              have k5 : fM_isWord M9 (hL 759412) = false := kw2
              obtain ⟨I4, M3, j1, j2, j3, j4⟩ := t_fail f3 (c := 1) (by omega) (by omega) (fun _ => rfl)
              have g' := er_good j3
              exact LO_bad (I1 := I4) (G1 := G) (M1 := M3) (by simp only [hI_lit, hL_lit, hI_neg, hI_add, hI_sub, bnd_s, bnd2_s, bnd3_s, ↓reduceIte, eq_self, if_true, if_false, Bool.false_eq_true, Bool.true_eq_false, a1, wl, x1, nx, rx, tb, f1, k6, k1, j1]) (by simp only [hI_lit, hL_lit, hI_neg, hI_add, hI_sub, bnd_s, bnd2_s, bnd3_s, ↓reduceIte, eq_self, if_true, if_false, Bool.false_eq_true, Bool.true_eq_false, g1, a2, gg, x2, nx, tm, b1, gf, k4, k5, j2, g', b_more g']) (fGo_tr (fGo_tr g3 b3) j4) j3
        · have g' := er_good f5
          have ne : (hL 0 = hL 1700885364) = False := eq_false (by decide)
          have nw : (hL 0 = hL 2003137396) = False := eq_false (by decide)
          exact LO_bad (I1 := I3) (G1 := G) (M1 := M10) (by simp only [hI_lit, hL_lit, hI_neg, hI_add, hI_sub, bnd_s, bnd2_s, bnd3_s, ↓reduceIte, eq_self, if_true, if_false, Bool.false_eq_true, Bool.true_eq_false, a1, wl, x1, nx, rx, tb, f1, ne, nw, f2]) (by simp only [hI_lit, hL_lit, hI_neg, hI_add, hI_sub, bnd_s, bnd2_s, bnd3_s, ↓reduceIte, eq_self, if_true, if_false, Bool.false_eq_true, Bool.true_eq_false, g1, a2, gg, x2, nx, tm, b1, b9, f4, f3, g', b_more g']) (fGo_tr (fGo_tr g3 b3) f6) f5
      · rw [decide_eq_false ct] at tb tm
        obtain ⟨I4, M3, k1, k2, k3, k4⟩ := t_fail a3 (c := 5) (by omega) (by omega) (fun z => by rw [a4] at z; exact absurd z (by decide))
        have g' := er_good k3
        exact LO_bad (I1 := I4) (G1 := G) (M1 := M3) (by simp only [hI_lit, hL_lit, hI_neg, hI_add, hI_sub, bnd_s, bnd2_s, bnd3_s, ↓reduceIte, eq_self, if_true, if_false, Bool.false_eq_true, Bool.true_eq_false, a1, wl, x1, nx, rx, tb, k1]) (by simp only [hI_lit, hL_lit, hI_neg, hI_add, hI_sub, bnd_s, bnd2_s, bnd3_s, ↓reduceIte, eq_self, if_true, if_false, Bool.false_eq_true, Bool.true_eq_false, g1, a2, gg, x2, nx, tm, k2, g', b_more g']) (fGo_tr g3 k4) k3
  · have g := er_good a3
    exact LO_bad (I1 := I1) (G1 := G) (M1 := M9) (by simp only [hI_lit, hL_lit, hI_neg, hI_add, hI_sub, bnd_s, bnd2_s, bnd3_s, ↓reduceIte, eq_self, if_true, if_false, Bool.false_eq_true, Bool.true_eq_false, a1]) (by simp only [hI_lit, hL_lit, hI_neg, hI_add, hI_sub, bnd_s, bnd2_s, bnd3_s, ↓reduceIte, eq_self, if_true, if_false, Bool.false_eq_true, Bool.true_eq_false, g1, a2, g, b_more g]) (fGo_tr g3 a4) a3
end HIF

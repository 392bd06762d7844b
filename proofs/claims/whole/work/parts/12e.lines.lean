/-! LINES OF A DESCRIPTION -/
section HIE
variable {M M1 M2 : zM} {I I1 I2 : zI} {G : zG} {B n p p0 q k v x c lo hi : Int} {l : List Int}
theorem nvF (h1 : 0 ≤ v) (h2 : v ≤ 100000) : (hI v = hI (-1)) = False := by
  rw [hI_eq (by omega) (by omega) (by omega) (by omega)]
  exact eq_false (by omega)
theorem zvF (h1 : 0 < v) (h2 : v ≤ 100000) : (hI v = hI 0) = False := by
  rw [hI_eq (by omega) (by omega) (by omega) (by omega)]
  exact eq_false (by omega)
def LO (B n p0 : Int) (M : zM) (a : Option (Bool × zI × zG)) (b : Option zM) : Prop :=
  ∃ t I1 G1 M1, a = some (t, I1, G1) ∧ b = some M1 ∧ fRd M M1 ∧ ((t = true ∧ (∃ p1, p0 < p1 ∧ hAh n p1 I1 M1) ∧ hR G1 (hm M1) ∧ hV B (hm M1) ∧ hm M1 0 = hm M 0) ∨ (t = false ∧ hEr I1 M1))
theorem l_hem (h : hAt n p I M) (hr : hR G (hm M)) (hv : hV B (hm M)) : LO B n p M (fD_readHem I G) (fM_hemLine M) := by
  obtain ⟨M8, g1, g2, g3⟩ := t_go h
  have e8 := fGo_hm g3
  unfold fD_readHem fM_hemLine fM_hemLine_j42
  rcases t_more (lo := 0) (hi := 8) g2 (by omega) (by omega) (by omega) (by omega) with ⟨v, p1, I1, M9, v1, v2, c1, c2, c3, c4, c5⟩ | ⟨I1, M9, w, c1, c2, c3, c4⟩
  · have nv := nvF v1 (by omega)
    rcases t_stays (lo := 0) (hi := 359) c3 (by omega) (by omega) (by omega) (by omega) with ⟨u, p2, I2, u1, u2, d1, d2, d3, d5, d4⟩ | ⟨I2, M10, w, d1, d2, d3, d4⟩
    · have nu := nvF u1 (by omega)
      have e9 : hm M9 = hm M := (fGo_hm c5).trans e8
      have hr9 : hR G (hm M9) := by rw [e9]; exact hr
      have hv9 : hV B (hm M9) := by rw [e9]; exact hv
      have g := at_good d3
      obtain ⟨x, x1, x2, y1, y2, y3⟩ := t_hemWhy (b := v) (m := u) hr9 hv9 v1 (by omega) u1 (by omega)
      by_cases cx : x = 0
      · obtain ⟨y4, y5⟩ := y3 cx
        obtain ⟨m', G2, M2, z1, z2, z3, z4, z5, z6⟩ := t_moveHem (b := v) (m := u) hr9 hv9 v1 (by omega) y4 (by omega) y5
        have f := hfr_L (x := hI m') z5
        obtain ⟨M3, k1, k2, k3⟩ := t_go (at_fr d3 f)
        subst cx
        refine ⟨true, I2, G2, M3, by simp only [hI_lit, hL_lit, hI_neg, hI_add, hI_sub, bnd_s, bnd2_s, bnd3_s, ↓reduceIte, eq_self, if_true, if_false, Bool.false_eq_true, Bool.true_eq_false, c1, nv, d1, nu, y1, z1], by simp only [hI_lit, hL_lit, hI_neg, hI_add, hI_sub, bnd_s, bnd2_s, bnd3_s, ↓reduceIte, eq_self, if_true, if_false, Bool.false_eq_true, Bool.true_eq_false, g1, c2, d2, g, y2, z2, k1], fRd_tr (fRd_go (fGo_tr g3 c5)) (fRd_tr (fRd_fr f) (fRd_go k3)), Or.inl ⟨rfl, ⟨p2, by omega, k2⟩, ?_, ?_, ?_⟩⟩
        · rw [fGo_hm k3]; exact z3
        · rw [fGo_hm k3]; exact z4
        · rw [fGo_hm k3, ← e9]; exact z6.1
      · have nx := zvF (v := x) (by omega) (by omega)
        obtain ⟨I3, M3, k1, k2, k3, k4⟩ := t_fail d3 (c := 5) (by omega) (by omega) (fun z => by rw [d5] at z; exact absurd z (by decide))
        have g' := er_good k3
        exact ⟨false, I3, G, M3, by simp only [hI_lit, hL_lit, hI_neg, hI_add, hI_sub, bnd_s, bnd2_s, bnd3_s, ↓reduceIte, eq_self, if_true, if_false, Bool.false_eq_true, Bool.true_eq_false, c1, nv, d1, nu, y1, nx, k1], by simp only [hI_lit, hL_lit, hI_neg, hI_add, hI_sub, bnd_s, bnd2_s, bnd3_s, ↓reduceIte, eq_self, if_true, if_false, Bool.false_eq_true, Bool.true_eq_false, g1, c2, d2, g, y2, nx, k2, g'], fRd_go (fGo_tr (fGo_tr g3 c5) k4), Or.inr ⟨rfl, k3⟩⟩
    · have g := er_good d3
      exact ⟨false, I2, G, M10, by simp only [hI_lit, hL_lit, hI_neg, hI_add, hI_sub, bnd_s, bnd2_s, bnd3_s, ↓reduceIte, eq_self, if_true, if_false, Bool.false_eq_true, Bool.true_eq_false, c1, nv, d1], by simp only [hI_lit, hL_lit, hI_neg, hI_add, hI_sub, bnd_s, bnd2_s, bnd3_s, ↓reduceIte, eq_self, if_true, if_false, Bool.false_eq_true, Bool.true_eq_false, g1, c2, d2, g], fRd_go (fGo_tr (fGo_tr g3 c5) d4), Or.inr ⟨rfl, d3⟩⟩
  · have g := er_good c3
    exact ⟨false, I1, G, M9, by simp only [hI_lit, hL_lit, hI_neg, hI_add, hI_sub, bnd_s, bnd2_s, bnd3_s, ↓reduceIte, eq_self, if_true, if_false, Bool.false_eq_true, Bool.true_eq_false, c1], by simp only [hI_lit, hL_lit, hI_neg, hI_add, hI_sub, bnd_s, bnd2_s, bnd3_s, ↓reduceIte, eq_self, if_true, if_false, Bool.false_eq_true, Bool.true_eq_false, g1, c2, b_stays g, g], fRd_go (fGo_tr g3 c4), Or.inr ⟨rfl, c3⟩⟩
theorem LO_bad {a : Option (Bool × zI × zG)} {b : Option zM} {G1 : zG} (e1 : a = some (false, I1, G1)) (e2 : b = some M1) (f : fGo M M1) (e : hEr I1 M1) : LO B n p0 M a b := ⟨false, I1, G1, M1, e1, e2, fRd_go f, Or.inr ⟨rfl, e⟩⟩
theorem LO_ok {a : Option (Bool × zI × zG)} {b : Option zM} {G1 : zG} {p1 : Int} (e1 : a = some (true, I1, G1)) (e2 : b = some M1) (f : fRd M M1) (hp : p0 < p1) (k : hAh n p1 I1 M1) (r : hR G1 (hm M1)) (v : hV B (hm M1)) (z : hm M1 0 = hm M 0) : LO B n p0 M a b := ⟨true, I1, G1, M1, e1, e2, f, Or.inl ⟨rfl, ⟨p1, hp, k⟩, r, v, z⟩⟩
theorem t_maySew (hr : hR G (hm M)) (h : hV B (hm M)) (x1 : 0 ≤ x) (x2 : x < hm M 0) (y1 : 1 ≤ v) (y2 : v ≤ 99) : fG_canSew G (hI x) (hI v) = some (decide (¬ (99 < hm M (26 + x) + v ∨ hm M 3 < v))) ∧ fM_maySew M (hI x) (hI v) = some (decide (¬ (99 < hm M (26 + x) + v ∨ hm M 3 < v))) := by
  have h0 := h.1.1
  have hq := h.2.2.1 x x1 x2
  have hq3 := h.2.2.2.2.2.2 3
  unfold fG_canSew fM_maySew
  rw [Mgore_d h (by omega) (by omega), decide_eq_true (show 0 ≤ x ∧ x < hm M 0 from ⟨x1, x2⟩), if_pos rfl]
  by_cases d1 : 99 < hm M (26 + x) + v
  · rw [decide_eq_false (fun z => z (Or.inl d1))]
    exact ⟨by simp (disch := omega) only [↓reduceIte, Int.reduceEq, Int.reduceLT, bnd_s, bnd2_s, bnd3_s, hI_lit, hL_lit, hI_add, hI_sub, hI_mul, hI_neg, hI_lt, hI_eq, if_true, if_false, eq_self_iff_true, true_and, and_true, false_and, and_false, decide_eq_true_eq, not_true, not_false_iff, Bool.false_eq_true, Bool.true_eq_false, r_stitch hr, d1], by simp (disch := omega) only [↓reduceIte, Int.reduceEq, Int.reduceLT, bnd_s, bnd2_s, bnd3_s, hI_lit, hL_lit, hI_add, hI_sub, hI_mul, hI_neg, hI_lt, hI_eq, if_true, if_false, eq_self_iff_true, true_and, and_true, false_and, and_false, decide_eq_true_eq, not_true, not_false_iff, Bool.false_eq_true, Bool.true_eq_false, mrd, d1]⟩
  · by_cases d2 : hm M 3 < v
    · rw [decide_eq_false (fun z => z (Or.inr d2))]
      exact ⟨by simp (disch := omega) only [↓reduceIte, Int.reduceEq, Int.reduceLT, bnd_s, bnd2_s, bnd3_s, hI_lit, hL_lit, hI_add, hI_sub, hI_mul, hI_neg, hI_lt, hI_eq, if_true, if_false, eq_self_iff_true, true_and, and_true, false_and, and_false, decide_eq_true_eq, not_true, not_false_iff, Bool.false_eq_true, Bool.true_eq_false, r_stitch hr, d1, r_thread hr, d2], by simp (disch := omega) only [↓reduceIte, Int.reduceEq, Int.reduceLT, bnd_s, bnd2_s, bnd3_s, hI_lit, hL_lit, hI_add, hI_sub, hI_mul, hI_neg, hI_lt, hI_eq, if_true, if_false, eq_self_iff_true, true_and, and_true, false_and, and_false, decide_eq_true_eq, not_true, not_false_iff, Bool.false_eq_true, Bool.true_eq_false, mrd, d1, m_3, d2]⟩
    · rw [decide_eq_true (by omega)]
      exact ⟨by simp (disch := omega) only [↓reduceIte, Int.reduceEq, Int.reduceLT, bnd_s, bnd2_s, bnd3_s, hI_lit, hL_lit, hI_add, hI_sub, hI_mul, hI_neg, hI_lt, hI_eq, if_true, if_false, eq_self_iff_true, true_and, and_true, false_and, and_false, decide_eq_true_eq, not_true, not_false_iff, Bool.false_eq_true, Bool.true_eq_false, r_stitch hr, d1, r_thread hr, d2], by simp (disch := omega) only [↓reduceIte, Int.reduceEq, Int.reduceLT, bnd_s, bnd2_s, bnd3_s, hI_lit, hL_lit, hI_add, hI_sub, hI_mul, hI_neg, hI_lt, hI_eq, if_true, if_false, eq_self_iff_true, true_and, and_true, false_and, and_false, decide_eq_true_eq, not_true, not_false_iff, Bool.false_eq_true, Bool.true_eq_false, mrd, d1, m_3, d2]⟩
theorem l_sew (h : hAt n p I M) (hr : hR G (hm M)) (hv : hV B (hm M)) : LO B n p M (fD_readSew I G) (fM_sewLine M) := by
  obtain ⟨M8, g1, g2, g3⟩ := t_go h
  have e8 := fGo_hm g3
  have h0 := hv.1.1
  have rg := r_gores hr
  have m0 : mA M8 249 0 = hI (hm M 0) := by rw [m_0, e8]
  unfold fD_readSew fM_sewLine fM_sewLine_j47
  rcases t_more (lo := 0) (hi := hm M 0 - 1) g2 (by omega) (by omega) (by omega) (by omega) with ⟨v, p1, I1, M9, v1, v2, c1, c2, c3, c4, c5⟩ | ⟨I1, M9, w, c1, c2, c3, c4⟩
  · have nv := nvF v1 (by omega)
    rcases t_stays (lo := 1) (hi := 99) c3 (by omega) (by omega) (by omega) (by omega) with ⟨u, p2, I2, u1, u2, d1, d2, d3, d5, d4⟩ | ⟨I2, M10, w, d1, d2, d3, d4⟩
    · have nu := nvF (v := u) (by omega) (by omega)
      have e9 : hm M9 = hm M := (fGo_hm c5).trans e8
      have hr9 : hR G (hm M9) := by rw [e9]; exact hr
      have hv9 : hV B (hm M9) := by rw [e9]; exact hv
      have g := at_good d3
      obtain ⟨y1, y2⟩ := t_maySew (x := v) (v := u) hr9 hv9 v1 (by rw [e9]; omega) u1 u2
      by_cases cx : 99 < hm M9 (26 + v) + u ∨ hm M9 3 < u
      · rw [decide_eq_false (fun z => z cx)] at y1 y2
        obtain ⟨I3, M3, k1, k2, k3, k4⟩ := t_fail d3 (c := 5) (by omega) (by omega) (fun z => by rw [d5] at z; exact absurd z (by decide))
        have g' := er_good k3
        exact LO_bad (I1 := I3) (G1 := G) (M1 := M3) (by simp only [hI_lit, hL_lit, hI_neg, hI_add, hI_sub, bnd_s, bnd2_s, bnd3_s, ↓reduceIte, eq_self, if_true, if_false, Bool.false_eq_true, Bool.true_eq_false, rg, c1, nv, d1, nu, y1, k1]) (by simp only [hI_lit, hL_lit, hI_neg, hI_add, hI_sub, bnd_s, bnd2_s, bnd3_s, ↓reduceIte, eq_self, if_true, if_false, Bool.false_eq_true, Bool.true_eq_false, g1, m0, c2, d2, g, y2, k2, g']) (fGo_tr (fGo_tr g3 c5) k4) k3
      · rw [decide_eq_true cx] at y1 y2
        obtain ⟨m', G2, M2, z1, z2, z3, z4, z5, z6⟩ := t_sew (k := v) (v := u) hr9 hv9 v1 (by rw [e9]; omega) u1 (by omega)
        have f := hfr_L (x := hI m') z5
        obtain ⟨M3, k1, k2, k3⟩ := t_go (at_fr d3 f)
        exact LO_ok (I1 := I2) (G1 := G2) (M1 := M3) (p1 := p2) (by simp only [hI_lit, hL_lit, hI_neg, hI_add, hI_sub, bnd_s, bnd2_s, bnd3_s, ↓reduceIte, eq_self, if_true, if_false, Bool.false_eq_true, Bool.true_eq_false, rg, c1, nv, d1, nu, y1, z1]) (by simp only [hI_lit, hL_lit, hI_neg, hI_add, hI_sub, bnd_s, bnd2_s, bnd3_s, ↓reduceIte, eq_self, if_true, if_false, Bool.false_eq_true, Bool.true_eq_false, g1, m0, c2, d2, g, y2, z2, k1]) (fRd_tr (fRd_go (fGo_tr g3 c5)) (fRd_tr (fRd_fr f) (fRd_go k3))) (by omega) k2 (by rw [fGo_hm k3]; exact z3) (by rw [fGo_hm k3]; exact z4) (by rw [fGo_hm k3, ← e9]; exact z6.1)
    · have g := er_good d3
      exact LO_bad (I1 := I2) (G1 := G) (M1 := M10) (by simp only [hI_lit, hL_lit, hI_neg, hI_add, hI_sub, bnd_s, bnd2_s, bnd3_s, ↓reduceIte, eq_self, if_true, if_false, Bool.false_eq_true, Bool.true_eq_false, rg, c1, nv, d1]) (by simp only [hI_lit, hL_lit, hI_neg, hI_add, hI_sub, bnd_s, bnd2_s, bnd3_s, ↓reduceIte, eq_self, if_true, if_false, Bool.false_eq_true, Bool.true_eq_false, g1, m0, c2, d2, g]) (fGo_tr (fGo_tr g3 c5) d4) d3
  · have g := er_good c3
    exact LO_bad (I1 := I1) (G1 := G) (M1 := M9) (by simp only [hI_lit, hL_lit, hI_neg, hI_add, hI_sub, bnd_s, bnd2_s, bnd3_s, ↓reduceIte, eq_self, if_true, if_false, Bool.false_eq_true, Bool.true_eq_false, rg, c1]) (by simp only [hI_lit, hL_lit, hI_neg, hI_add, hI_sub, bnd_s, bnd2_s, bnd3_s, ↓reduceIte, eq_self, if_true, if_false, Bool.false_eq_true, Bool.true_eq_false, g1, m0, c2, b_stays g, g]) (fGo_tr g3 c4) c3
theorem l_rip (h : hAt n p I M) (hr : hR G (hm M)) (hv : hV B (hm M)) : LO B n p M (fD_readRip I G) (fM_ripLine M) := by
  obtain ⟨M8, g1, g2, g3⟩ := t_go h
  have e8 := fGo_hm g3
  have h0 := hv.1.1
  have rg := r_gores hr
  have m0 : mA M8 249 0 = hI (hm M 0) := by rw [m_0, e8]
  unfold fD_readRip fM_ripLine fM_ripLine_j38
  rcases t_stays (lo := 0) (hi := hm M 0 - 1) g2 (by omega) (by omega) (by omega) (by omega) with ⟨v, p2, I2, v1, v2, d1, d2, d3, d5, d4⟩ | ⟨I2, M10, w, d1, d2, d3, d4⟩
  · have nv := nvF v1 (by omega)
    have hr9 : hR G (hm M8) := by rw [e8]; exact hr
    have hv9 : hV B (hm M8) := by rw [e8]; exact hv
    have g := at_good d3
    have y1 := g_torn (k := v) hr9 v1 (by rw [e8]; omega) (by omega) hv9
    have y2 := m_torn (M := M8) (k := v) v1 (by omega)
    have y3 := Mgore_d (x := v) hv9 (by omega) (by omega)
    rw [decide_eq_true (show 0 ≤ v ∧ v < hm M8 0 from ⟨v1, by rw [e8]; omega⟩)] at y3
    by_cases cx : hm M8 (26 + v) = 0
    · rw [decide_eq_true cx] at y1 y2
      have y4 : fM_mayRip M8 (hI v) = some false := by unfold fM_mayRip; simp only [hI_lit, hL_lit, hI_neg, hI_add, hI_sub, bnd_s, bnd2_s, bnd3_s, ↓reduceIte, eq_self, if_true, if_false, Bool.false_eq_true, Bool.true_eq_false, y3, y2]
      obtain ⟨I3, M3, k1, k2, k3, k4⟩ := t_fail d3 (c := 5) (by omega) (by omega) (fun z => by rw [d5] at z; exact absurd z (by decide))
      have g' := er_good k3
      exact LO_bad (I1 := I3) (G1 := G) (M1 := M3) (by simp only [hI_lit, hL_lit, hI_neg, hI_add, hI_sub, bnd_s, bnd2_s, bnd3_s, ↓reduceIte, eq_self, if_true, if_false, Bool.false_eq_true, Bool.true_eq_false, rg, d1, nv, y1, k1]) (by simp only [hI_lit, hL_lit, hI_neg, hI_add, hI_sub, bnd_s, bnd2_s, bnd3_s, ↓reduceIte, eq_self, if_true, if_false, Bool.false_eq_true, Bool.true_eq_false, g1, m0, d2, g, y4, k2, g']) (fGo_tr g3 k4) k3
    · rw [decide_eq_false cx] at y1 y2
      have y4 : fM_mayRip M8 (hI v) = some true := by unfold fM_mayRip; simp only [hI_lit, hL_lit, hI_neg, hI_add, hI_sub, bnd_s, bnd2_s, bnd3_s, ↓reduceIte, eq_self, if_true, if_false, Bool.false_eq_true, Bool.true_eq_false, y3, y2]
      obtain ⟨m', G2, M2, z1, z2, z3, z4, z5, z6⟩ := t_rip (k := v) hr9 hv9 v1 (by rw [e8]; omega)
      have f := hfr_L (x := hI m') z5
      obtain ⟨M3, k1, k2, k3⟩ := t_go (at_fr d3 f)
      exact LO_ok (I1 := I2) (G1 := G2) (M1 := M3) (p1 := p2) (by simp only [hI_lit, hL_lit, hI_neg, hI_add, hI_sub, bnd_s, bnd2_s, bnd3_s, ↓reduceIte, eq_self, if_true, if_false, Bool.false_eq_true, Bool.true_eq_false, rg, d1, nv, y1, z1]) (by simp only [hI_lit, hL_lit, hI_neg, hI_add, hI_sub, bnd_s, bnd2_s, bnd3_s, ↓reduceIte, eq_self, if_true, if_false, Bool.false_eq_true, Bool.true_eq_false, g1, m0, d2, g, y4, z2, k1]) (fRd_tr (fRd_go g3) (fRd_tr (fRd_fr f) (fRd_go k3))) (by omega) k2 (by rw [fGo_hm k3]; exact z3) (by rw [fGo_hm k3]; exact z4) (by rw [fGo_hm k3, ← e8]; exact z6.1)
  · have g := er_good d3
    exact LO_bad (I1 := I2) (G1 := G) (M1 := M10) (by simp only [hI_lit, hL_lit, hI_neg, hI_add, hI_sub, bnd_s, bnd2_s, bnd3_s, ↓reduceIte, eq_self, if_true, if_false, Bool.false_eq_true, Bool.true_eq_false, rg, d1]) (by simp only [hI_lit, hL_lit, hI_neg, hI_add, hI_sub, bnd_s, bnd2_s, bnd3_s, ↓reduceIte, eq_self, if_true, if_false, Bool.false_eq_true, Bool.true_eq_false, g1, m0, d2, g]) (fGo_tr g3 d4) d3
theorem l_thread (h : hAt n p I M) (hr : hR G (hm M)) (hv : hV B (hm M)) : LO B n p M (fD_readThread I G) (fM_threadLine M) := by
  obtain ⟨M8, g1, g2, g3⟩ := t_go h
  have e8 := fGo_hm g3
  have h0 := hv.1
  unfold fD_readThread fM_threadLine
  rcases t_more (lo := 0) (hi := 9999) g2 (by omega) (by omega) (by omega) (by omega) with ⟨v, p1, I1, M9, v1, v2, c1, c2, c3, c4, c5⟩ | ⟨I1, M9, w, c1, c2, c3, c4⟩
  · have nv := nvF v1 (by omega)
    have e9 : hm M9 = hm M := (fGo_hm c5).trans e8
    have g := ah_good c3
    have f : hfr M9 (mW M9 3 v) := hfr_W hfr_rf
    have em : hm (mW M9 3 v) = hu (hm M) 3 v := by rw [hm_mW (by omega) (by omega), e9]
    exact LO_ok (I1 := I1) (G1 := wgF G 0 3 (hI v)) (M1 := mW M9 3 v) (p1 := p1) (by simp only [hI_lit, hL_lit, hI_neg, hI_add, hI_sub, bnd_s, bnd2_s, bnd3_s, ↓reduceIte, eq_self, if_true, if_false, Bool.false_eq_true, Bool.true_eq_false, c1, nv]) (by simp only [hI_lit, hL_lit, hI_neg, hI_add, hI_sub, bnd_s, bnd2_s, bnd3_s, ↓reduceIte, eq_self, if_true, if_false, Bool.false_eq_true, Bool.true_eq_false, g1, c2, g, mW_3]) (fRd_tr (fRd_go (fGo_tr g3 c5)) (fRd_fr f)) (by omega) (ah_fr c3 f) (by rw [em]; exact hR_thread (by omega) (by omega) (by omega) hr) (by rw [em]; exact hV_free (Or.inl rfl) hv) (by rw [em, hu_ne (by omega)])
  · have g := er_good c3
    exact LO_bad (I1 := I1) (G1 := G) (M1 := M9) (by simp only [hI_lit, hL_lit, hI_neg, hI_add, hI_sub, bnd_s, bnd2_s, bnd3_s, ↓reduceIte, eq_self, if_true, if_false, Bool.false_eq_true, Bool.true_eq_false, c1]) (by simp only [hI_lit, hL_lit, hI_neg, hI_add, hI_sub, bnd_s, bnd2_s, bnd3_s, ↓reduceIte, eq_self, if_true, if_false, Bool.false_eq_true, Bool.true_eq_false, g1, c2, g]) (fGo_tr g3 c4) c3
theorem l_pass (h : hAt n p I M) (hr : hR G (hm M)) (hv : hV B (hm M)) (hB : B < 999000000) : LO (B + 240) n p M (bnd2 (fI_expectNumber I 1 240) fun v5 I4 => if v5 = (-1) then fD_readStatement_j150 I4 G v5 else bnd2 (fG_letPass G v5) fun v8 G7 => fD_readStatement_j150 I4 G7 v5) (fM_passLine M) := by
  obtain ⟨M8, g1, g2, g3⟩ := t_go h
  have e8 := fGo_hm g3
  unfold fD_readStatement_j150 fM_passLine
  rcases t_more (lo := 1) (hi := 240) g2 (by omega) (by omega) (by omega) (by omega) with ⟨v, p1, I1, M9, v1, v2, c1, c2, c3, c4, c5⟩ | ⟨I1, M9, w, c1, c2, c3, c4⟩
  · have nv := nvF (v := v) (by omega) (by omega)
    have e9 : hm M9 = hm M := (fGo_hm c5).trans e8
    have g := ah_good c3
    have hr9 : hR G (hm M9) := by rw [e9]; exact hr
    have hv9 : hV B (hm M9) := by rw [e9]; exact hv
    obtain ⟨m', G2, M2, z1, z2, z3, z4, z5, z6⟩ := t_pass (n := v) hr9 hv9 (by omega) (by omega) (by omega)
    have f := hfr_L (x := hI m') z5
    exact LO_ok (I1 := I1) (G1 := G2) (M1 := wmF M2 29 (hI m')) (p1 := p1) (by simp only [hI_lit, hL_lit, hI_neg, hI_add, hI_sub, bnd_s, bnd2_s, bnd3_s, ↓reduceIte, eq_self, if_true, if_false, Bool.false_eq_true, Bool.true_eq_false, c1, nv, z1]) (by simp only [hI_lit, hL_lit, hI_neg, hI_add, hI_sub, bnd_s, bnd2_s, bnd3_s, ↓reduceIte, eq_self, if_true, if_false, Bool.false_eq_true, Bool.true_eq_false, g1, c2, g, z2]) (fRd_tr (fRd_go (fGo_tr g3 c5)) (fRd_fr f)) (by omega) (ah_fr c3 f) z3 (hV_le (by omega) z4) ((z6 0 (by omega) (by omega) (by omega) (by omega)).trans (by rw [e9]))
  · have g := er_good c3
    exact LO_bad (I1 := I1) (G1 := G) (M1 := M9) (by simp only [hI_lit, hL_lit, hI_neg, hI_add, hI_sub, bnd_s, bnd2_s, bnd3_s, ↓reduceIte, eq_self, if_true, if_false, Bool.false_eq_true, Bool.true_eq_false, c1]) (by simp only [hI_lit, hL_lit, hI_neg, hI_add, hI_sub, bnd_s, bnd2_s, bnd3_s, ↓reduceIte, eq_self, if_true, if_false, Bool.false_eq_true, Bool.true_eq_false, g1, c2, g]) (fGo_tr g3 c4) c3
end HIE

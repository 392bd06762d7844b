/-! LINES OF A DESCRIPTION -/
section HIE
variable {M M1 M2 : zM} {I I1 I2 : zI} {G : zG} {B n p p0 q k v x c lo hi : Int} {l : List Int}
theorem nvF (h1 : 0 ≤ v) (h2 : v ≤ 100000) : (hI v = hI (-1)) = False := by
  rw [hI_eq (by omega) (by omega) (by omega) (by omega)]
  exact eq_false (by omega)
theorem zvF (h1 : 0 < v) (h2 : v ≤ 100000) : (hI v = hI 0) = False := by
  rw [hI_eq (by omega) (by omega) (by omega) (by omega)]
  exact eq_false (by omega)
def LO (B n p0 : Int) (M : zM) (a : Option (Bool × zI × zG)) (b : Option zM) : Prop :=
  ∃ t I1 G1 M1, a = some (t, I1, G1) ∧ b = some M1 ∧ fRd M M1 ∧ ((t = true ∧ (∃ p1, p0 < p1 ∧ hAh n p1 I1 M1) ∧ hR G1 (hm M1) ∧ hV B (hm M1) ∧ hm M1 0 = hm M 0) ∨ (t = false ∧ hEr I1 M1))
theorem l_hem (h : hAt n p I M) (hr : hR G (hm M)) (hv : hV B (hm M)) : LO B n p M (fD_readHem I G) (fM_hemLine M) := by
  obtain ⟨M8, g1, g2, g3⟩ := t_go h
  have e8 := fGo_hm g3
  unfold fD_readHem fM_hemLine fM_hemLine_j42
  rcases t_more (lo := 0) (hi := 8) g2 (by omega) (by omega) (by omega) (by omega) with ⟨v, p1, I1, M9, v1, v2, c1, c2, c3, c4, c5⟩ | ⟨I1, M9, w, c1, c2, c3, c4⟩
  · have nv := nvF v1 (by omega)
    rcases t_stays (lo := 0) (hi := 359) c3 (by omega) (by omega) (by omega) (by omega) with ⟨u, p2, I2, u1, u2, d1, d2, d3, d5, d4⟩ | ⟨I2, M10, w, d1, d2, d3, d4⟩
    · have nu := nvF u1 (by omega)
      have e9 : hm M9 = hm M := (fGo_hm c5).trans e8
      have hr9 : hR G (hm M9) := by rw [e9]; exact hr
      have hv9 : hV B (hm M9) := by rw [e9]; exact hv
      have g := at_good d3
      obtain ⟨x, x1, x2, y1, y2, y3⟩ := t_hemWhy (b := v) (m := u) hr9 hv9 v1 (by omega) u1 (by omega)
      by_cases cx : x = 0
      · obtain ⟨y4, y5⟩ := y3 cx
        obtain ⟨m', G2, M2, z1, z2, z3, z4, z5, z6⟩ := t_moveHem (b := v) (m := u) hr9 hv9 v1 (by omega) y4 (by omega) y5
        have f := hfr_L (x := hI m') z5
        obtain ⟨M3, k1, k2, k3⟩ := t_go (at_fr d3 f)
        subst cx
        refine ⟨true, I2, G2, M3, by simp only [hI_lit, hI_neg, hI_add, hI_sub, bnd_s, bnd2_s, bnd3_s, ↓reduceIte, eq_self, if_true, if_false, Bool.false_eq_true, Bool.true_eq_false, c1, nv, d1, nu, y1, z1], by simp only [hI_lit, hI_neg, hI_add, hI_sub, bnd_s, bnd2_s, bnd3_s, ↓reduceIte, eq_self, if_true, if_false, Bool.false_eq_true, Bool.true_eq_false, g1, c2, d2, g, y2, z2, k1], fRd_tr (fRd_go (fGo_tr g3 c5)) (fRd_tr (fRd_fr f) (fRd_go k3)), Or.inl ⟨rfl, ⟨p2, by omega, k2⟩, ?_, ?_, ?_⟩⟩
        · rw [fGo_hm k3]; exact z3
        · rw [fGo_hm k3]; exact z4
        · rw [fGo_hm k3, ← e9]; exact z6.1
      · have nx := zvF (v := x) (by omega) (by omega)
        obtain ⟨I3, M3, k1, k2, k3, k4⟩ := t_fail d3 (c := 5) (by omega) (by omega) (fun z => by rw [d5] at z; exact absurd z (by decide))
        have g' := er_good k3
        exact ⟨false, I3, G, M3, by simp only [hI_lit, hI_neg, hI_add, hI_sub, bnd_s, bnd2_s, bnd3_s, ↓reduceIte, eq_self, if_true, if_false, Bool.false_eq_true, Bool.true_eq_false, c1, nv, d1, nu, y1, nx, k1], by simp only [hI_lit, hI_neg, hI_add, hI_sub, bnd_s, bnd2_s, bnd3_s, ↓reduceIte, eq_self, if_true, if_false, Bool.false_eq_true, Bool.true_eq_false, g1, c2, d2, g, y2, nx, k2, g'], fRd_go (fGo_tr (fGo_tr g3 c5) k4), Or.inr ⟨rfl, k3⟩⟩
    · have g := er_good d3
      exact ⟨false, I2, G, M10, by simp only [hI_lit, hI_neg, hI_add, hI_sub, bnd_s, bnd2_s, bnd3_s, ↓reduceIte, eq_self, if_true, if_false, Bool.false_eq_true, Bool.true_eq_false, c1, nv, d1], by simp only [hI_lit, hI_neg, hI_add, hI_sub, bnd_s, bnd2_s, bnd3_s, ↓reduceIte, eq_self, if_true, if_false, Bool.false_eq_true, Bool.true_eq_false, g1, c2, d2, g], fRd_go (fGo_tr (fGo_tr g3 c5) d4), Or.inr ⟨rfl, d3⟩⟩
  · have g := er_good c3
    exact ⟨false, I1, G, M9, by simp only [hI_lit, hI_neg, hI_add, hI_sub, bnd_s, bnd2_s, bnd3_s, ↓reduceIte, eq_self, if_true, if_false, Bool.false_eq_true, Bool.true_eq_false, c1], by simp only [hI_lit, hI_neg, hI_add, hI_sub, bnd_s, bnd2_s, bnd3_s, ↓reduceIte, eq_self, if_true, if_false, Bool.false_eq_true, Bool.true_eq_false, g1, c2, b_stays g, g], fRd_go (fGo_tr g3 c4), Or.inr ⟨rfl, c3⟩⟩
end HIE

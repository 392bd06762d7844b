/-! A COMMAND'S NUMBERS -/
section HIO
variable {C C1 : zC} {M M1 M2 : zM} {I I1 I2 : zI} {n p p0 q k v x N : Int}
/-- a change of the script's cells of the reference -/
def hfs (M M1 : zM) : Prop := (∀ k, k < 26 ∨ 28 < k → mF M1 k = mF M k) ∧ mN M1 = mN M ∧ mB M1 = mB M ∧ ∀ a, a < 254 ∨ 259 < a → mA M1 a = mA M a
theorem hfs_rf : hfs M M := ⟨fun _ _ => rfl, rfl, rfl, fun _ _ => rfl⟩
theorem hfs_A {a : Nat} {f : Nat → Int32} (h1 : 254 ≤ a) (h2 : a ≤ 259) (h : hfs M M1) : hfs M (wmA M1 a f) := ⟨h.1, h.2.1, h.2.2.1, fun b hb => (mA_ne (by omega)).trans (h.2.2.2 b hb)⟩
theorem hfs_F {a : Nat} {v : Int32} (h1 : 26 ≤ a) (h2 : a ≤ 28) (h : hfs M M1) : hfs M (wmF M1 a v) := ⟨fun k hk => (mF_ne (by omega)).trans (h.1 k hk), h.2.1, h.2.2.1, h.2.2.2⟩
theorem at_fs (h : hAt n p I M) (f : hfs M M1) : hAt n p I M1 := by
  obtain ⟨n1, n2, hb, e1, m3, m8, e8, e9, m9, q, kd, q1, q2, q3, k1, k2, k3, k4, k5, k6, k7, k8, k9, t1, t2, t3, t4⟩ := h
  have f8 := f.2.2.2 248 (by omega)
  refine ⟨n1, n2, fun k h1 h2 => ?_, e1, ?_, ?_, e8, e9, ?_, q, kd, q1, q2, q3, k1, ?_, k3, ?_, k5, k6, k7, ?_, k9, ?_, t2, ?_, ?_⟩
  · rw [f8]; exact hb k h1 h2
  · rw [f.1 3 (by decide)]; exact m3
  · rw [f.1 8 (by decide)]; exact m8
  · rw [f.1 9 (by decide)]; exact m9
  · rw [f.1 4 (by decide)]; exact k2
  · rw [f.1 5 (by decide)]; exact k4
  · rw [f.1 6 (by decide)]; exact k8
  · rw [f.2.1]; exact t1
  · rw [f.1 7 (by decide)]; exact t3
  · rw [f.1 7 (by decide)]; exact t4
theorem ah_fs (h : hAh n p I M) (f : hfs M M1) : hAh n p I M1 := by
  obtain ⟨p1, I1, a1, a2, a3⟩ := h
  exact ⟨p1, I1, a1, at_fs a2 f, a3⟩
theorem er_fs (h : hEr I M) (f : hfs M M1) : hEr I M1 := by
  obtain ⟨c, c1, c2, c3, c4, c5⟩ := h
  exact ⟨c, c1, c2, by rw [f.1 8 (by omega)]; exact c3, by rw [f.1 8 (by omega)]; exact c4, by rw [f.1 9 (by omega)]; exact c5⟩
/-- what reading a command leaves alone: all but row N of three lists -/
def fQ (N : Int) (M M1 : zM) : Prop := (∀ k, k < 4 ∨ 9 < k → mF M1 k = mF M k) ∧ mB M1 = mB M ∧ (∀ a, a ≠ 255 → a ≠ 256 → a ≠ 257 → mA M1 a = mA M a) ∧ ∀ a (j : Nat), (j : Int) ≠ N → mA M1 a j = mA M a j
theorem fQ_tr (h1 : fQ N M M1) (h2 : fQ N M1 M2) : fQ N M M2 := ⟨fun k hk => (h2.1 k hk).trans (h1.1 k hk), h2.2.1.trans h1.2.1, fun a x y z => (h2.2.2.1 a x y z).trans (h1.2.2.1 a x y z), fun a j hj => (h2.2.2.2 a j hj).trans (h1.2.2.2 a j hj)⟩
theorem fQ_go (h : fGo M M1) : fQ N M M1 := ⟨h.1, h.2.1, fun a _ _ _ => by rw [h.2.2], fun a j _ => by rw [h.2.2]⟩
theorem fQ_w {a : Nat} {v : Int32} (N0 : 0 ≤ N) (ha : a = 255 ∨ a = 256 ∨ a = 257) : fQ N M (wmA M a (upd (mA M a) N.toNat v)) := by
  refine ⟨fun _ _ => rfl, rfl, fun b x y z => mA_ne (by omega), fun b j hj => ?_⟩
  by_cases c : b = a
  · subst c
    rw [mA_same, upd_w, if_neg (by omega)]
  · rw [mA_ne c]
theorem hfs_w {a : Nat} {v : Int32} (ha : a = 255 ∨ a = 256 ∨ a = 257) : hfs M (wmA M a (upd (mA M a) N.toNat v)) := hfs_A (by omega) (by omega) hfs_rf
theorem w_at {a : Nat} {v : Int32} : mA (wmA M a (upd (mA M a) N.toNat v)) a N.toNat = v := by rw [mA_same, upd_w, if_pos rfl]
def nSt (N κ a b c : Int) (M1 : zM) : Prop := mA M1 255 N.toNat = hI a ∧ (κ ≤ 3 → mA M1 256 N.toNat = hI b) ∧ (κ = 3 → mA M1 257 N.toNat = hI c) ∧ (3 < κ → b = 0) ∧ (κ ≠ 3 → c = 0) ∧ (0 ≤ a ∧ a ≤ 9999) ∧ (0 ≤ b ∧ b ≤ 9999) ∧ (0 ≤ c ∧ c ≤ 9999)
theorem t_nums {κ : Int} (h : hAh n p I M) (κ0 : 0 ≤ κ) (κ5 : κ ≤ 5) (N0 : 0 ≤ N) (N60 : N < 60) :
    (∃ a b c p1 I1 M1, fS_readNumbers I C (hI (κ + 1)) = (bnd (fS_plan C (hI (κ + 1)) (hI a) (hI b) (hI c)) fun C7 => bnd2 (fI_expectSign I1 (hI 59)) fun v10 I9 => some (v10, I9, C7)) ∧ fM_readsRest M (hI N) (hI κ) = some M1 ∧ hAh n p1 I1 M1 ∧ p < p1 ∧ fQ N M M1 ∧ nSt N κ a b c M1) ∨
    (∃ I1 M1, fS_readNumbers I C (hI (κ + 1)) = some (false, I1, C) ∧ fM_readsRest M (hI N) (hI κ) = some M1 ∧ hEr I1 M1 ∧ fQ N M M1) := by
  have k6 : (hI κ = hI 6) = False := by rw [hI_eq (by omega) (by omega) (by omega) (by omega)]; exact eq_false (by omega)
  have wrN : ∀ (f : Nat → Int32) (v : Int32), wr 60 f (hI N) v = some (upd f N.toNat v) := fun f v => wr_hI N0 (by omega) (by omega)
  have z1 : (hI 0 = hI (-1)) = False := eq_false (by decide)
  unfold fS_readNumbers fS_readNumbers_j27 fS_readNumbers_j32 fS_readNumbers_j51 fS_readNumbers_j78 fM_readsRest fM_readsRest_j59
  rcases t_more (lo := 0) (hi := 9999) h (by omega) (by omega) (by omega) (by omega) with ⟨a, p1, I1, M9, v1, v2, c1, c2, c3, c4, c5⟩ | ⟨I1, M9, w, c1, c2, c3, c4⟩
  · have nv := nvF v1 (by omega)
    have hA := ah_fs c3 (hfs_w (N := N) (a := 255) (v := hI a) (by omega))
    have qA : fQ N M (wmA M9 255 (upd (mA M9 255) N.toNat (hI a))) := fQ_tr (fQ_go c5) (fQ_w N0 (by omega))
    have aA : mA (wmA M9 255 (upd (mA M9 255) N.toNat (hI a))) 255 N.toNat = hI a := w_at
    generalize hM10 : wmA M9 255 (upd (mA M9 255) N.toNat (hI a)) = M10 at *
    by_cases d3 : 3 < κ
    · have k3 : (hI 3 < hI κ) = True := by rw [hI_lt (by omega) (by omega) (by omega) (by omega)]; exact eq_true d3
      have k3' : (hI κ = hI 3) = False := by rw [hI_eq (by omega) (by omega) (by omega) (by omega)]; exact eq_false (by omega)
      have k4 : (hI (κ + 1) = hI 4) = False := by rw [hI_eq (by omega) (by omega) (by omega) (by omega)]; exact eq_false (by omega)
      refine Or.inl ⟨a, 0, 0, p1, I1, M10, ?_, by simp only [hI_lit, hL_lit, hI_neg, hI_add, hI_sub, bnd_s, bnd2_s, bnd3_s, ↓reduceIte, eq_self, if_true, if_false, Bool.false_eq_true, Bool.true_eq_false, k6, c2, wrN, hM10, k3, k3'], hA, c4, qA, ⟨aA, fun z => by omega, fun z => by omega, fun _ => rfl, fun _ => rfl, by omega, by omega, by omega⟩⟩
      by_cases d5 : κ = 4
      · have k5 : (hI (κ + 1) = hI 5) = True := eq_true (by rw [d5]; rfl)
        simp only [hI_lit, hL_lit, hI_neg, hI_add, hI_sub, bnd_s, bnd2_s, bnd3_s, ↓reduceIte, eq_self, if_true, if_false, Bool.false_eq_true, Bool.true_eq_false, c1, nv, k5, z1, k4]
      · have k5 : (hI (κ + 1) = hI 5) = False := by rw [hI_eq (by omega) (by omega) (by omega) (by omega)]; exact eq_false (by omega)
        have k6' : (hI (κ + 1) = hI 6) = True := eq_true (by rw [show κ = 5 by omega]; rfl)
        simp only [hI_lit, hL_lit, hI_neg, hI_add, hI_sub, bnd_s, bnd2_s, bnd3_s, ↓reduceIte, eq_self, if_true, if_false, Bool.false_eq_true, Bool.true_eq_false, c1, nv, k5, k6', z1, k4]
    · have k3 : (hI 3 < hI κ) = False := by rw [hI_lt (by omega) (by omega) (by omega) (by omega)]; exact eq_false d3
      have k5 : (hI (κ + 1) = hI 5) = False := by rw [hI_eq (by omega) (by omega) (by omega) (by omega)]; exact eq_false (by omega)
      have k6' : (hI (κ + 1) = hI 6) = False := by rw [hI_eq (by omega) (by omega) (by omega) (by omega)]; exact eq_false (by omega)
      rcases t_more (lo := 0) (hi := 9999) hA (by omega) (by omega) (by omega) (by omega) with ⟨b, p2, I2, M11, u1, u2, d1, d2, d4, d5, d6⟩ | ⟨I2, M11, w, d1, d2, d4, d5⟩
      · have nu := nvF u1 (by omega)
        have hB := ah_fs d4 (hfs_w (N := N) (a := 256) (v := hI b) (by omega))
        have qB : fQ N M (wmA M11 256 (upd (mA M11 256) N.toNat (hI b))) := fQ_tr (fQ_tr qA (fQ_go d6)) (fQ_w N0 (by omega))
        have aB : mA (wmA M11 256 (upd (mA M11 256) N.toNat (hI b))) 255 N.toNat = hI a := by rw [mA_ne (by decide), d6.2.2]; exact aA
        have bB : mA (wmA M11 256 (upd (mA M11 256) N.toNat (hI b))) 256 N.toNat = hI b := w_at
        generalize hM12 : wmA M11 256 (upd (mA M11 256) N.toNat (hI b)) = M12 at *
        by_cases e3 : κ = 3
        · have k3' : (hI κ = hI 3) = True := eq_true (by rw [e3])
          have k4 : (hI (κ + 1) = hI 4) = True := eq_true (by rw [e3]; rfl)
          rcases t_more (lo := 0) (hi := 9999) hB (by omega) (by omega) (by omega) (by omega) with ⟨c, p3, I3, M13, w1, w2, f1, f2, f4, f5, f6⟩ | ⟨I3, M13, w, f1, f2, f4, f5⟩
          · have nw := nvF w1 (by omega)
            have hC := ah_fs f4 (hfs_w (N := N) (a := 257) (v := hI c) (by omega))
            have qC : fQ N M (wmA M13 257 (upd (mA M13 257) N.toNat (hI c))) := fQ_tr (fQ_tr qB (fQ_go f6)) (fQ_w N0 (by omega))
            exact Or.inl ⟨a, b, c, p3, I3, _, by simp only [hI_lit, hL_lit, hI_neg, hI_add, hI_sub, bnd_s, bnd2_s, bnd3_s, ↓reduceIte, eq_self, if_true, if_false, Bool.false_eq_true, Bool.true_eq_false, c1, nv, k5, k6', d1, nu, k4, f1, nw], by simp only [hI_lit, hL_lit, hI_neg, hI_add, hI_sub, bnd_s, bnd2_s, bnd3_s, ↓reduceIte, eq_self, if_true, if_false, Bool.false_eq_true, Bool.true_eq_false, k6, c2, wrN, hM10, k3, d2, hM12, k3', f2], hC, by omega, qC, ⟨by rw [mA_ne (by decide), f6.2.2]; exact aB, fun _ => by rw [mA_ne (by decide), f6.2.2]; exact bB, fun _ => w_at, fun z => by omega, fun z => absurd e3 z, by omega, by omega, by omega⟩⟩
          · have qC : fQ N M (wmA M13 257 (upd (mA M13 257) N.toNat w)) := fQ_tr (fQ_tr qB (fQ_go f5)) (fQ_w N0 (by omega))
            exact Or.inr ⟨I3, _, by simp only [hI_lit, hL_lit, hI_neg, hI_add, hI_sub, bnd_s, bnd2_s, bnd3_s, ↓reduceIte, eq_self, if_true, if_false, Bool.false_eq_true, Bool.true_eq_false, c1, nv, k5, k6', d1, nu, k4, f1], by simp only [hI_lit, hL_lit, hI_neg, hI_add, hI_sub, bnd_s, bnd2_s, bnd3_s, ↓reduceIte, eq_self, if_true, if_false, Bool.false_eq_true, Bool.true_eq_false, k6, c2, wrN, hM10, k3, d2, hM12, k3', f2], er_fs f4 (hfs_w (N := N) (by omega)), qC⟩
        · have k3' : (hI κ = hI 3) = False := by rw [hI_eq (by omega) (by omega) (by omega) (by omega)]; exact eq_false e3
          have k4 : (hI (κ + 1) = hI 4) = False := by rw [hI_eq (by omega) (by omega) (by omega) (by omega)]; exact eq_false (by omega)
          exact Or.inl ⟨a, b, 0, p2, I2, M12, by simp only [hI_lit, hL_lit, hI_neg, hI_add, hI_sub, bnd_s, bnd2_s, bnd3_s, ↓reduceIte, eq_self, if_true, if_false, Bool.false_eq_true, Bool.true_eq_false, c1, nv, k5, k6', d1, nu, k4, z1], by simp only [hI_lit, hL_lit, hI_neg, hI_add, hI_sub, bnd_s, bnd2_s, bnd3_s, ↓reduceIte, eq_self, if_true, if_false, Bool.false_eq_true, Bool.true_eq_false, k6, c2, wrN, hM10, k3, d2, hM12, k3'], hB, by omega, qB, ⟨aB, fun _ => bB, fun z => absurd z e3, fun z => by omega, fun _ => rfl, by omega, by omega, by omega⟩⟩
      · have eB := er_fs d4 (hfs_w (N := N) (a := 256) (v := w) (by omega))
        have qB : fQ N M (wmA M11 256 (upd (mA M11 256) N.toNat w)) := fQ_tr (fQ_tr qA (fQ_go d5)) (fQ_w N0 (by omega))
        generalize hM12 : wmA M11 256 (upd (mA M11 256) N.toNat w) = M12 at *
        have gb := er_good eB
        by_cases e3 : κ = 3
        · have k3' : (hI κ = hI 3) = True := eq_true (by rw [e3])
          exact Or.inr ⟨I2, wmA M12 257 (upd (mA M12 257) N.toNat (hI 0)), by simp only [hI_lit, hL_lit, hI_neg, hI_add, hI_sub, bnd_s, bnd2_s, bnd3_s, ↓reduceIte, eq_self, if_true, if_false, Bool.false_eq_true, Bool.true_eq_false, c1, nv, k5, k6', d1], by simp only [hI_lit, hL_lit, hI_neg, hI_add, hI_sub, bnd_s, bnd2_s, bnd3_s, ↓reduceIte, eq_self, if_true, if_false, Bool.false_eq_true, Bool.true_eq_false, k6, c2, wrN, hM10, k3, d2, hM12, k3', b_more gb], er_fs eB (hfs_w (N := N) (by omega)), fQ_tr qB (fQ_w N0 (by omega))⟩
        · have k3' : (hI κ = hI 3) = False := by rw [hI_eq (by omega) (by omega) (by omega) (by omega)]; exact eq_false e3
          exact Or.inr ⟨I2, M12, by simp only [hI_lit, hL_lit, hI_neg, hI_add, hI_sub, bnd_s, bnd2_s, bnd3_s, ↓reduceIte, eq_self, if_true, if_false, Bool.false_eq_true, Bool.true_eq_false, c1, nv, k5, k6', d1], by simp only [hI_lit, hL_lit, hI_neg, hI_add, hI_sub, bnd_s, bnd2_s, bnd3_s, ↓reduceIte, eq_self, if_true, if_false, Bool.false_eq_true, Bool.true_eq_false, k6, c2, wrN, hM10, k3, d2, hM12, k3'], eB, qB⟩
  · have eA := er_fs c3 (hfs_w (N := N) (a := 255) (v := w) (by omega))
    have qA : fQ N M (wmA M9 255 (upd (mA M9 255) N.toNat w)) := fQ_tr (fQ_go c4) (fQ_w N0 (by omega))
    generalize hM10 : wmA M9 255 (upd (mA M9 255) N.toNat w) = M10 at *
    have ga := er_good eA
    by_cases d3 : 3 < κ
    · have k3 : (hI 3 < hI κ) = True := by rw [hI_lt (by omega) (by omega) (by omega) (by omega)]; exact eq_true d3
      have k3' : (hI κ = hI 3) = False := by rw [hI_eq (by omega) (by omega) (by omega) (by omega)]; exact eq_false (by omega)
      exact Or.inr ⟨I1, M10, by simp only [hI_lit, hL_lit, hI_neg, hI_add, hI_sub, bnd_s, bnd2_s, bnd3_s, ↓reduceIte, eq_self, if_true, if_false, Bool.false_eq_true, Bool.true_eq_false, c1], by simp only [hI_lit, hL_lit, hI_neg, hI_add, hI_sub, bnd_s, bnd2_s, bnd3_s, ↓reduceIte, eq_self, if_true, if_false, Bool.false_eq_true, Bool.true_eq_false, k6, c2, wrN, hM10, k3, k3'], eA, qA⟩
    · have k3 : (hI 3 < hI κ) = False := by rw [hI_lt (by omega) (by omega) (by omega) (by omega)]; exact eq_false d3
      have eB := er_fs eA (hfs_w (N := N) (a := 256) (v := hI 0) (by omega))
      have qB : fQ N M (wmA M10 256 (upd (mA M10 256) N.toNat (hI 0))) := fQ_tr qA (fQ_w N0 (by omega))
      generalize hM12 : wmA M10 256 (upd (mA M10 256) N.toNat (hI 0)) = M12 at *
      have gb := er_good eB
      by_cases e3 : κ = 3
      · have k3' : (hI κ = hI 3) = True := eq_true (by rw [e3])
        exact Or.inr ⟨I1, wmA M12 257 (upd (mA M12 257) N.toNat (hI 0)), by simp only [hI_lit, hL_lit, hI_neg, hI_add, hI_sub, bnd_s, bnd2_s, bnd3_s, ↓reduceIte, eq_self, if_true, if_false, Bool.false_eq_true, Bool.true_eq_false, c1], by simp only [hI_lit, hL_lit, hI_neg, hI_add, hI_sub, bnd_s, bnd2_s, bnd3_s, ↓reduceIte, eq_self, if_true, if_false, Bool.false_eq_true, Bool.true_eq_false, k6, c2, wrN, hM10, k3, b_more ga, hM12, k3', b_more gb], er_fs eB (hfs_w (N := N) (by omega)), fQ_tr qB (fQ_w N0 (by omega))⟩
      · have k3' : (hI κ = hI 3) = False := by rw [hI_eq (by omega) (by omega) (by omega) (by omega)]; exact eq_false e3
        exact Or.inr ⟨I1, M12, by simp only [hI_lit, hL_lit, hI_neg, hI_add, hI_sub, bnd_s, bnd2_s, bnd3_s, ↓reduceIte, eq_self, if_true, if_false, Bool.false_eq_true, Bool.true_eq_false, c1], by simp only [hI_lit, hL_lit, hI_neg, hI_add, hI_sub, bnd_s, bnd2_s, bnd3_s, ↓reduceIte, eq_self, if_true, if_false, Bool.false_eq_true, Bool.true_eq_false, k6, c2, wrN, hM10, k3, b_more ga, hM12, k3'], eB, qB⟩
end HIO

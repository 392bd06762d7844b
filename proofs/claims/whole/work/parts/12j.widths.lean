/-! THE WIDTHS, LOOPED -/
section HIJ
variable {σ τ : Int → Int} {M M0 M1 M2 : zM} {I I1 I2 : zI} {G G1 : zG} {B n p p0 q k v x c g lo hi s : Int} {l : List Int}
theorem ah_0 (h : hAh n p I M) (hp : 0 ≤ p) : hAh n 0 I M := by
  obtain ⟨p1, I1, a1, a2, a3, a4⟩ := h
  exact ⟨p1, I1, a1, a2, by omega, fun z => by have := a4 z; omega⟩
theorem t_w65 {i : Int} (h : hAt n p I M) (hr : hR G (hm M)) (hv : hV B (hm M)) (e0 : hm M 0 = g) (s1 : hm M 1 = 0) (s2 : hm M 2 = 0) (es : bg (hm M) g = s) (sa : 0 ≤ s) (sb : s ≤ 360) :
    (∃ v G1 M1, fD_readWidths_j65 I G (hI s) (hI i) = some (.inl (I, G1, hI (s + v), hI (i + 1))) ∧ fM_widthHere M (hI s) = some M1 ∧ hAh n p I M1 ∧ hR G1 (hm M1) ∧ hV B (hm M1) ∧ hm M1 = gS (hm M) g v ∧ 10 ≤ v ∧ v ≤ 350 ∧ s + v ≤ 360 ∧ g < 12 ∧ fRd M M1) ∨
    (∃ v I1 M1, g = 12 ∧ fD_readWidths_j65 I G (hI s) (hI i) = some (.inl (I, G, hI (s + v), hI (i + 1))) ∧ fM_widthHere M (hI s) = some M1 ∧ fI_fail I (hI 4) = some (false, I1) ∧ hEr I1 M1 ∧ fGo M M1) ∨
    (∃ I1 M1, fD_readWidths_j65 I G (hI s) (hI i) = some (.inr (false, I1, G)) ∧ fM_widthHere M (hI s) = some M1 ∧ hEr I1 M1 ∧ fGo M M1) := by
  have g1 := hv.1.1
  have gd := at_good h
  have m0 : mA M 249 0 = hI g := by rw [m_0, e0]
  have eW : fM_widthHere M (hI s) = fM_widthHere_j22 M (hI (if 360 - s < 350 then 360 - s else 350)) := by
    unfold fM_widthHere
    rw [show (360 : Int32) = hI 360 from rfl, show (350 : Int32) = hI 350 from rfl, hI_sub, ilt (by omega) (by omega) (by omega) (by omega)]
    by_cases d : 360 - s < 350
    · rw [if_pos d, if_pos d]
    · rw [if_neg d, if_neg d]
  have hh : 0 ≤ (if 360 - s < 350 then 360 - s else 350) ∧ (if 360 - s < 350 then 360 - s else 350) ≤ 350 ∧ (if 360 - s < 350 then 360 - s else 350) ≤ 360 - s ∧ ((if 360 - s < 350 then 360 - s else 350) = 350 ∨ (if 360 - s < 350 then 360 - s else 350) = 360 - s) := by
    by_cases d : 360 - s < 350
    · rw [if_pos d]; omega
    · rw [if_neg d]; omega
  rw [eW]
  generalize (if 360 - s < 350 then 360 - s else 350) = hi at hh
  unfold fM_widthHere_j22 fM_widthHere_j54 fD_readWidths_j65 fD_readWidths_j112
  have ey : ∀ a b, fM_stays M a b = fM_looks M a b := fun a b => g_stays gd
  rcases t_looksAt (lo := 10) (hi := hi) h (by omega) (by omega) (by omega) (by omega) with ⟨v, k1, k2, k3, k4, k5, k6, k7, k8⟩ | ⟨v, I1, M1, k1, k2, k3, k4, k5, k6, k7, k8, k9, k10⟩ | ⟨w, I1, M1, k1, k2, k3, k4, k5, k6, k7⟩
  · have c1 : (hI v < hI 10) = False := by rw [hI_lt (by omega) (by omega) (by omega) (by omega)]; exact eq_false (by omega)
    have c2 : (hI 350 < hI v) = False := by rw [hI_lt (by omega) (by omega) (by omega) (by omega)]; exact eq_false (by omega)
    have c3 : (hI 360 < hI (s + v)) = False := by rw [hI_lt (by omega) (by omega) (by omega) (by omega)]; exact eq_false (by omega)
    by_cases d : g < 12
    · obtain ⟨G1, x1, x2, x3⟩ := g_addGore (v := v) hr hv e0 d s1 s2 k6 (by omega) (by omega)
      obtain ⟨M1, y1, y2, y3⟩ := m_addGore (v := v) e0 (by omega) d
      obtain ⟨M3, z1, z2, z3⟩ := t_go (at_fr h y3)
      have n12 : (hI g = hI 12) = False := by rw [hI_eq (by omega) (by omega) (by omega) (by omega)]; exact eq_false (by omega)
      refine Or.inl ⟨v, G1, M3, by simp only [hI_lit, hL_lit, hI_neg, hI_add, hI_sub, bnd_s, bnd2_s, bnd3_s, ↓reduceIte, eq_self, if_true, if_false, Bool.false_eq_true, Bool.true_eq_false, k1, k3, c1, c2, c3, x1], by simp only [hI_lit, hL_lit, hI_neg, hI_add, hI_sub, bnd_s, bnd2_s, bnd3_s, ↓reduceIte, eq_self, if_true, if_false, Bool.false_eq_true, Bool.true_eq_false, ey, k8, gd, m0, n12, y1, z1], z2, ?_, ?_, ?_, k6, by omega, by omega, d, fRd_tr (fRd_fr y3) (fRd_go z3)⟩
      · rw [fGo_hm z3, y2]; exact x2
      · rw [fGo_hm z3, y2]; exact x3
      · rw [fGo_hm z3, y2]
    · have e12 : g = 12 := by omega
      subst e12
      obtain ⟨I2, M2, b1, b2, b3, b4⟩ := t_fail h (c := 4) (by omega) (by omega) (fun e => by rw [k1] at e; exact absurd e (by decide))
      have gA : fC_addGore G (hI v) = some G := by
        have rg : gF G 1 0 = hI 12 := by rw [← e0]; exact r_gores hr
        unfold fC_addGore
        rw [rg, show (12 : Int32) = hI 12 from rfl, ilt (by omega) (by omega) (by omega) (by omega), if_neg (by omega)]
      have gb := er_good b3
      exact Or.inr (Or.inl ⟨v, I2, M2, rfl, by simp only [hI_lit, hL_lit, hI_neg, hI_add, hI_sub, bnd_s, bnd2_s, bnd3_s, ↓reduceIte, eq_self, if_true, if_false, Bool.false_eq_true, Bool.true_eq_false, k1, k3, c1, c2, c3, gA], by simp only [hI_lit, hL_lit, hI_neg, hI_add, hI_sub, bnd_s, bnd2_s, bnd3_s, ↓reduceIte, eq_self, if_true, if_false, Bool.false_eq_true, Bool.true_eq_false, ey, k8, gd, m0, b2, gb], b1, b3, b4⟩)
  · have gb := er_good k9
    refine Or.inr (Or.inr ⟨I1, M1, ?_, by simp only [hI_lit, hL_lit, hI_neg, hI_add, hI_sub, bnd_s, bnd2_s, bnd3_s, ↓reduceIte, eq_self, if_true, if_false, Bool.false_eq_true, Bool.true_eq_false, ey, k8, gb], k9, k10⟩)
    by_cases d1 : v < 10
    · have c1 : (hI v < hI 10) = True := by rw [hI_lt (by omega) (by omega) (by omega) (by omega)]; exact eq_true (by omega)
      simp only [hI_lit, hL_lit, hI_neg, hI_add, hI_sub, bnd_s, bnd2_s, bnd3_s, ↓reduceIte, eq_self, if_true, if_false, Bool.false_eq_true, Bool.true_eq_false, k1, k3, c1, k7, Option.map_some]
    · have c1 : (hI v < hI 10) = False := by rw [hI_lt (by omega) (by omega) (by omega) (by omega)]; exact eq_false (by omega)
      by_cases d2 : 350 < v
      · have c2 : (hI 350 < hI v) = True := by rw [hI_lt (by omega) (by omega) (by omega) (by omega)]; exact eq_true (by omega)
        simp only [hI_lit, hL_lit, hI_neg, hI_add, hI_sub, bnd_s, bnd2_s, bnd3_s, ↓reduceIte, eq_self, if_true, if_false, Bool.false_eq_true, Bool.true_eq_false, k1, k3, c1, c2, k7, Option.map_some]
      · have c2 : (hI 350 < hI v) = False := by rw [hI_lt (by omega) (by omega) (by omega) (by omega)]; exact eq_false (by omega)
        have c3 : (hI 360 < hI (s + v)) = True := by rw [hI_lt (by omega) (by omega) (by omega) (by omega)]; exact eq_true (by omega)
        simp only [hI_lit, hL_lit, hI_neg, hI_add, hI_sub, bnd_s, bnd2_s, bnd3_s, ↓reduceIte, eq_self, if_true, if_false, Bool.false_eq_true, Bool.true_eq_false, k1, k3, c1, c2, c3, k7, Option.map_some]
  · have gb := er_good k6
    exact Or.inr (Or.inr ⟨I1, M1, by simp only [hI_lit, hL_lit, hI_neg, hI_add, hI_sub, bnd_s, bnd2_s, bnd3_s, ↓reduceIte, eq_self, if_true, if_false, Bool.false_eq_true, Bool.true_eq_false, k1, k3], by simp only [hI_lit, hL_lit, hI_neg, hI_add, hI_sub, bnd_s, bnd2_s, bnd3_s, ↓reduceIte, eq_self, if_true, if_false, Bool.false_eq_true, Bool.true_eq_false, ey, k5, gb], k6, k7⟩)
def GO (B n : Int) (M0 : zM) (a : Option (Bool × zI × zG)) (b : Option zM) : Prop :=
  ∃ t I1 G1 M1, a = some (t, I1, G1) ∧ b = some M1 ∧ fRd M0 M1 ∧ ((t = true ∧ hAh n 0 I1 M1 ∧ hR G1 (hm M1) ∧ hV B (hm M1) ∧ 2 ≤ hm M1 0) ∨ (t = false ∧ hEr I1 M1))
def gSt (B n : Int) (M0 : zM) (i p : Int) (I : zI) (G : zG) (M : zM) : Prop := hAh n p I M ∧ hR G (hm M) ∧ hV B (hm M) ∧ hm M 0 = i ∧ hm M 1 = 0 ∧ hm M 2 = 0 ∧ (0 ≤ bg (hm M) i ∧ bg (hm M) i ≤ 360) ∧ fRd M0 M ∧ 0 ≤ p
theorem er_sign {a : Int32} (h : hEr I M) : fM_isSign M a = false := by
  obtain ⟨c, c1, c2, c3, -⟩ := h
  unfold fM_isSign
  rw [c3, show (0 : Int32) = hI 0 from rfl, ieq (by omega) (by omega) (by omega) (by omega), if_neg (by omega)]
theorem b5_bad {f : Nat} (h : hEr I M) : iter (fun s => fM_goresLine_b5 s) (f + 1) M = some M := by
  have g := er_good h
  refine it_ex2 (show fM_goresLine_b5 M = _ from ?_)
  unfold fM_goresLine_b5 fM_goresLine_j37 fM_goresLine_j67
  simp only [hI_lit, hL_lit, hI_neg, hI_add, hI_sub, bnd_s, bnd2_s, bnd3_s, ↓reduceIte, eq_self, if_true, if_false, Bool.false_eq_true, Bool.true_eq_false, g, er_sign h, b_sign g]
theorem t_gores1 {i : Int} (i1 : 1 ≤ i) (i2 : i ≤ 12) {f1 f2 : Nat} (ih : i < 12 → ∀ p I G M, gSt B n M0 (i + 1) p I G M → GO B n M0 (iter (fun s => fD_readWidths_b21 s.1 s.2.1 s.2.2.1 s.2.2.2) (f1 + 1) (I, G, hI (bg (hm M) (i + 1)), hI (i + 1))) (iter (fun s => fM_goresLine_b5 s) (f2 + 1) M)) (hs : gSt B n M0 i p I G M) :
    GO B n M0 (iter (fun s => fD_readWidths_b21 s.1 s.2.1 s.2.2.1 s.2.2.2) (f1 + 1 + 1) (I, G, hI (bg (hm M) i), hI i)) (iter (fun s => fM_goresLine_b5 s) (f2 + 1 + 1) M) := by
  obtain ⟨h, hr, hv, e0, s1, s2, ⟨sa, sb⟩, hf, hp⟩ := hs
  have gd := ah_good h
  obtain ⟨p1, I1, a1, a2, a3, a4⟩ := h
  have m0 : mA M 249 0 = hI i := by rw [m_0, e0]
  have hb : fM_beginning M (hI i) = some (hI (bg (hm M) i)) := m_begin hv (by omega) (by omega)
  have c12 : (hI 12 < hI i) = False := by rw [hI_lt (by omega) (by omega) (by omega) (by omega)]; exact eq_false (by omega)
  have ci : (hI 0 < hI i) = True := by rw [hI_lt (by omega) (by omega) (by omega) (by omega)]; exact eq_true (by omega)
  obtain ⟨b, d1, d2, d3⟩ := t_isSign a2 (c := 59) (by omega) (by omega)
  have hmk : mF M 6 = iF I1 4 := by
    obtain ⟨kd, k1, k2, k3, k4, k5⟩ := tok a2
    rw [k3, k4]
  cases b with
  | true =>
    have k3 := d3 rfl
    have nk : (mF M 6 = hI 2) = False := by rw [hmk, k3]; exact eq_false (by decide)
    by_cases c : bg (hm M) i = 360
    · obtain ⟨M1, b1, b2, b3⟩ := t_go a2
      have em := fGo_hm b3
      have ms : fM_mustSign M (hI 59) = some M1 := by unfold fM_mustSign fM_mustSign_j20; simp only [hI_lit, hL_lit, hI_neg, hI_add, hI_sub, bnd_s, bnd2_s, bnd3_s, ↓reduceIte, eq_self, if_true, if_false, Bool.false_eq_true, Bool.true_eq_false, gd, d2, b1]
      have i3 : 2 ≤ i := by
        refine Classical.byContradiction fun z => ?_
        have e1 : i = 1 := by omega
        have hk := (hv.2.2.1 0 (by omega) (by omega)).1.2
        have hbg : bg (hm M) (0 + 1) = bg (hm M) 0 + hm M (14 + 0) := bg_s (by omega)
        rw [bg_0] at hbg
        rw [e1] at c
        have : bg (hm M) (0 + 1) = bg (hm M) 1 := rfl
        omega
      exact ⟨true, I1, G, M1, it_ex (show fD_readWidths_b21 I G _ _ = _ by unfold fD_readWidths_b21; simp only [hI_lit, hL_lit, hI_neg, hI_add, hI_sub, bnd_s, bnd2_s, bnd3_s, ↓reduceIte, eq_self, if_true, if_false, Bool.false_eq_true, Bool.true_eq_false, c12, a1, ci, d1, c]), it_ex2 (show fM_goresLine_b5 M = _ by unfold fM_goresLine_b5 fM_goresLine_j37 fM_goresLine_j67; simp only [hI_lit, hL_lit, hI_neg, hI_add, hI_sub, bnd_s, bnd2_s, bnd3_s, ↓reduceIte, eq_self, if_true, if_false, Bool.false_eq_true, Bool.true_eq_false, gd, nk, d2, m0, hb, c, ms]), fRd_tr hf (fRd_go b3), Or.inl ⟨rfl, ah_0 b2 (by omega), by rw [em]; exact hr, by rw [em]; exact hv, by rw [em, e0]; exact i3⟩⟩
    · have nc : (hI (bg (hm M) i) = hI 360) = False := by rw [hI_eq (by omega) (by omega) (by omega) (by omega)]; exact eq_false c
      obtain ⟨I2, M2, b1, b2, b3, b4⟩ := t_fail a2 (c := 3) (by omega) (by omega) (fun e => by rw [k3] at e; exact absurd e (by decide))
      have gb := er_good b3
      exact ⟨false, I2, G, M2, it_ex (show fD_readWidths_b21 I G _ _ = _ by unfold fD_readWidths_b21; simp only [hI_lit, hL_lit, hI_neg, hI_add, hI_sub, bnd_s, bnd2_s, bnd3_s, ↓reduceIte, eq_self, if_true, if_false, Bool.false_eq_true, Bool.true_eq_false, c12, a1, ci, d1, nc, b1]), it_ex2 (show fM_goresLine_b5 M = _ by unfold fM_goresLine_b5 fM_goresLine_j37 fM_goresLine_j67; simp only [hI_lit, hL_lit, hI_neg, hI_add, hI_sub, bnd_s, bnd2_s, bnd3_s, ↓reduceIte, eq_self, if_true, if_false, Bool.false_eq_true, Bool.true_eq_false, gd, nk, d2, m0, hb, nc, b2, b_sign gb]), fRd_tr hf (fRd_go b4), Or.inr ⟨rfl, b3⟩⟩
  | false =>
    have cl : ∀ r, fD_readWidths_j65 I1 G (hI (bg (hm M) i)) (hI i) = r → fD_readWidths_b21 I G (hI (bg (hm M) i)) (hI i) = r := by
      rintro r rfl
      unfold fD_readWidths_b21
      simp only [hI_lit, hL_lit, hI_neg, hI_add, hI_sub, bnd_s, bnd2_s, bnd3_s, ↓reduceIte, eq_self, if_true, if_false, Bool.false_eq_true, Bool.true_eq_false, c12, a1, ci, d1]
    by_cases ck : mF M 6 = hI 2
    · have mo : ∀ M1, fM_widthHere M (hI (bg (hm M) i)) = some M1 → fM_goresLine_b5 M = some (.inl M1) := by
        intro M1 e
        unfold fM_goresLine_b5
        simp only [hI_lit, hL_lit, hI_neg, hI_add, hI_sub, bnd_s, bnd2_s, bnd3_s, ↓reduceIte, eq_self, if_true, if_false, Bool.false_eq_true, Bool.true_eq_false, gd, ck, m0, hb, e]
      rcases t_w65 (i := i) a2 hr hv e0 s1 s2 rfl sa sb with ⟨v, G1, M1, k1, k2, k3, k4, k5, k6, k7, k8, k9, k10, k11⟩ | ⟨v, I2, M1, k1, k2, k3, k4, k5, k6⟩ | ⟨I2, M1, k1, k2, k3, k4⟩
      · have l1 := it_su (n := f1 + 1) (b := fun s => fD_readWidths_b21 s.1 s.2.1 s.2.2.1 s.2.2.2) (s := (I, G, hI (bg (hm M) i), hI i)) (cl _ k1)
        have l2 := it_su (n := f2 + 1) (b := fun s => fM_goresLine_b5 s) (s := M) (mo _ k2)
        have ebg : bg (hm M1) (i + 1) = bg (hm M) i + v := by rw [k6]; exact gS_bg2 (by omega) k10 (by omega) (by omega)
        have := ih k10 p1 I1 G1 M1 ⟨k3, k4, k5, by rw [k6]; exact gS_0 (by omega) k10, by rw [k6, gS_w (by omega) (by omega) (by omega) (by omega)]; exact s1, by rw [k6, gS_w (by omega) (by omega) (by omega) (by omega)]; exact s2, by rw [ebg]; omega, fRd_tr hf k11, by omega⟩
        rw [l1, l2, ← ebg]
        exact this
      · have l1 := it_su (n := f1 + 1) (b := fun s => fD_readWidths_b21 s.1 s.2.1 s.2.2.1 s.2.2.2) (s := (I, G, hI (bg (hm M) i), hI i)) (cl _ k2)
        have l2 := it_su (n := f2 + 1) (b := fun s => fM_goresLine_b5 s) (s := M) (mo _ k3)
        have c13 : (hI 12 < hI (i + 1)) = True := by rw [hI_lt (by omega) (by omega) (by omega) (by omega)]; exact eq_true (by omega)
        exact ⟨false, I2, G, M1, l1.trans (it_ex (show fD_readWidths_b21 I1 G _ _ = _ by unfold fD_readWidths_b21; simp only [hI_lit, hL_lit, hI_neg, hI_add, hI_sub, bnd_s, bnd2_s, bnd3_s, ↓reduceIte, eq_self, if_true, if_false, Bool.false_eq_true, Bool.true_eq_false, c13, k4])), l2.trans (b5_bad k5), fRd_tr hf (fRd_go k6), Or.inr ⟨rfl, k5⟩⟩
      · have l2 := it_su (n := f2 + 1) (b := fun s => fM_goresLine_b5 s) (s := M) (mo _ k2)
        exact ⟨false, I2, G, M1, it_ex (cl _ k1), l2.trans (b5_bad k3), fRd_tr hf (fRd_go k4), Or.inr ⟨rfl, k3⟩⟩
    · have nk : (mF M 6 = hI 2) = False := eq_false ck
      obtain ⟨I2, M2, b1, b2, b3, b4⟩ := t_fail a2 (c := 1) (by omega) (by omega) (fun _ => rfl)
      have gb := er_good b3
      have ms : fM_mustSign M (hI 59) = some M2 := by unfold fM_mustSign fM_mustSign_j20; simp only [hI_lit, hL_lit, hI_neg, hI_add, hI_sub, bnd_s, bnd2_s, bnd3_s, ↓reduceIte, eq_self, if_true, if_false, Bool.false_eq_true, Bool.true_eq_false, gd, d2, b2, gb]
      have nk2 : (iF I1 4 = hI 2) = False := by rw [← hmk]; exact nk
      exact ⟨false, I2, G, M2, it_ex (cl _ (by unfold fD_readWidths_j65; simp only [hI_lit, hL_lit, hI_neg, hI_add, hI_sub, bnd_s, bnd2_s, bnd3_s, ↓reduceIte, eq_self, if_true, if_false, Bool.false_eq_true, Bool.true_eq_false, nk2, b1])), it_ex2 (show fM_goresLine_b5 M = _ by unfold fM_goresLine_b5 fM_goresLine_j37 fM_goresLine_j67; simp only [hI_lit, hL_lit, hI_neg, hI_add, hI_sub, bnd_s, bnd2_s, bnd3_s, ↓reduceIte, eq_self, if_true, if_false, Bool.false_eq_true, Bool.true_eq_false, gd, nk, d2, ms]), fRd_tr hf (fRd_go b4), Or.inr ⟨rfl, b3⟩⟩
theorem t_gores : ∀ (m i : Nat), i + m = 12 → 1 ≤ i → ∀ f1 f2, m + 2 ≤ f1 → m + 2 ≤ f2 → ∀ p I G M, gSt B n M0 i p I G M → GO B n M0 (iter (fun s => fD_readWidths_b21 s.1 s.2.1 s.2.2.1 s.2.2.2) f1 (I, G, hI (bg (hm M) i), hI i)) (iter (fun s => fM_goresLine_b5 s) f2 M) := by
  intro m
  induction m with
  | zero =>
    intro i h1 h2 f1 f2 h3 h4 p I G M hs
    obtain ⟨f1, rfl⟩ : ∃ k, f1 = k + 1 + 1 := ⟨f1 - 2, by omega⟩
    obtain ⟨f2, rfl⟩ : ∃ k, f2 = k + 1 + 1 := ⟨f2 - 2, by omega⟩
    exact t_gores1 (by omega) (by omega) (fun z => by omega) hs
  | succ m ih =>
    intro i h1 h2 f1 f2 h3 h4 p I G M hs
    obtain ⟨f1, rfl⟩ : ∃ k, f1 = k + 1 + 1 := ⟨f1 - 2, by omega⟩
    obtain ⟨f2, rfl⟩ : ∃ k, f2 = k + 1 + 1 := ⟨f2 - 2, by omega⟩
    exact t_gores1 (by omega) (by omega) (fun _ p I G M hs => ih (i + 1) (by omega) (by omega) (f1 + 1) (f2 + 1) (by omega) (by omega) p I G M hs) hs
end HIJ

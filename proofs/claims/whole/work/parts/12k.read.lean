/-! READING A WHOLE TEXT -/
section HIK
variable {σ τ : Int → Int} {M M0 M1 M2 : zM} {I I1 I2 : zI} {G G1 : zG} {B n p p0 q k v x c g lo hi s : Int} {l : List Int} {Y : Nat → Int32} {Γ : Nat → zG} {D : zD} {O : Nat → Int32}
theorem b_width {a : Int32} (g : fM_isGood M = false) : fM_widthHere M a = some M := by
  unfold fM_widthHere fM_widthHere_j22 fM_widthHere_j54
  split
  · simp only [hI_lit, hL_lit, hI_neg, hI_add, hI_sub, bnd_s, bnd2_s, bnd3_s, ↓reduceIte, eq_self, if_true, if_false, Bool.false_eq_true, Bool.true_eq_false, b_stays g, g]
  · simp only [hI_lit, hL_lit, hI_neg, hI_add, hI_sub, bnd_s, bnd2_s, bnd3_s, ↓reduceIte, eq_self, if_true, if_false, Bool.false_eq_true, Bool.true_eq_false, b_stays g, g]
theorem b_gores (h : hEr I M) : fM_goresLine M = some M := by
  unfold fM_goresLine
  rw [b_width (er_good h), bnd_s]
  exact b5_bad (f := 999999) h
theorem t_first (h : hAh n 0 I M) (hr : hR G (hm M)) (e : hm M = bS) (hB : 0 ≤ B) : GO B n M (fD_readWidths I G) (bnd (fM_mustWord M 7748677) fun M18 => fM_goresLine M18) := by
  have hv : hV B (hm M) := by rw [e]; exact hV_bS hB
  have z : ∀ w, w < 3 ∨ w = 4 ∨ 14 ≤ w → bS w = 0 := fun w hw => bS_0 (by omega) (by omega)
  have gd := ah_good h
  unfold fD_readWidths fM_mustWord fM_mustWord_j20
  rcases t_word2 h with ⟨l, p, I1, hl, a1, a3, a4, a5, a6⟩ | ⟨I1, I2, M1, a1, a2, a3, a4, a5, a6⟩
  · rcases t_kw a3 [7, 12, 15, 2, 5] (c8 := 444200870501) (c5 := 7748677) ⟨by decide, by decide, by decide⟩ rfl rfl with ⟨k1, k2⟩ | ⟨k1, k2⟩
    · rw [a5] at k1
      obtain ⟨M1, b1, b2, b3⟩ := t_go a3
      have em := fGo_hm b3
      have hr1 : hR G (hm M1) := by rw [em]; exact hr
      have hv1 : hV B (hm M1) := by rw [em]; exact hv
      obtain ⟨p1, I2, c1, c2, c3, c4⟩ := b2
      rw [a1, bnd2_s, if_pos k1, gd, if_pos rfl, k2, if_pos rfl, if_pos rfl, b1, bnd_s, bnd_s]
      unfold fM_goresLine
      have cl : ∀ r, fD_readWidths_j65 I2 G (hI 0) (hI 0) = r → fD_readWidths_b21 I1 G (hI 0) (hI 0) = r := by
        rintro r rfl
        have f12 : (hI 12 < hI 0) = False := eq_false (by decide)
        have f00 : (hI 0 < hI 0) = False := eq_false (by decide)
        unfold fD_readWidths_b21
        simp only [hI_lit, hL_lit, hI_neg, hI_add, hI_sub, bnd_s, bnd2_s, bnd3_s, ↓reduceIte, eq_self, if_true, if_false, Bool.false_eq_true, Bool.true_eq_false, f12, c1, f00]
      rcases t_w65 (i := 0) (s := 0) (g := 0) c2 hr1 hv1 (by rw [em, e]; exact z 0 (by omega)) (by rw [em, e]; exact z 1 (by omega)) (by rw [em, e]; exact z 2 (by omega)) rfl (by omega) (by omega) with ⟨v, G1, M2, d1, d2, d3, d4, d5, d6, d7, d8, d9, d10, d11⟩ | ⟨v, I3, M2, d1, _⟩ | ⟨I3, M2, d1, d2, d3, d4⟩
      · have l1 := it_su (n := 999999) (b := fun s => fD_readWidths_b21 s.1 s.2.1 s.2.2.1 s.2.2.2) (s := (I1, G, hI 0, hI 0)) (cl _ d1)
        have ebg : bg (hm M2) 1 = 0 + v := by rw [d6]; exact gS_bg2 (g := 0) (by omega) (by omega) (by omega) (by omega)
        have w := t_gores (B := B) (n := n) (M0 := M) 11 1 (by omega) (by omega) 999999 fu (by omega) (by unfold fu; omega) p1 I2 G1 M2 ⟨d3, d4, d5, by rw [d6]; exact gS_0 (g := 0) (by omega) (by omega), by rw [d6, gS_w (by omega) (by omega) (by omega) (by omega), em, e]; exact z 1 (by omega), by rw [d6, gS_w (by omega) (by omega) (by omega) (by omega), em, e]; exact z 2 (by omega), by show 0 ≤ bg (hm M2) 1 ∧ bg (hm M2) 1 ≤ 360; rw [ebg]; omega, fRd_tr (fRd_go b3) d11, by omega⟩
        have hw2 : (hI (0 + v), hI (0 + 1)) = (hI (bg (hm M2) ((1 : Nat) : Int)), hI ((1 : Nat) : Int)) := by
          rw [show ((1 : Nat) : Int) = 1 from rfl, ebg]; rfl
        have hw3 : (I2, G1, hI (0 + v), hI (0 + 1)) = (I2, G1, hI (bg (hm M2) ((1 : Nat) : Int)), hI ((1 : Nat) : Int)) := by rw [hw2]
        rw [show (0 : Int32) = hI 0 from rfl, d2, bnd_s]
        refine Eq.mpr (congrArg (fun o => GO B n M o _) ?_) w
        exact l1.trans (by rw [hw3])
      · omega
      · rw [show (0 : Int32) = hI 0 from rfl, d2, bnd_s]
        exact ⟨false, I3, G, M2, it_ex (n := 999999) (b := fun s => fD_readWidths_b21 s.1 s.2.1 s.2.2.1 s.2.2.2) (s := (I1, G, hI 0, hI 0)) (cl _ d1), b5_bad (f := 999999) d3, fRd_go (fGo_tr b3 d4), Or.inr ⟨rfl, d3⟩⟩
    · rw [a5] at k1
      obtain ⟨I2, M2, b1, b2, b3, b4⟩ := t_fail a3 (c := 1) (by omega) (by omega) (fun _ => rfl)
      have gb := er_good b3
      have k1' : (hL (p8 l) = hL 444200870501) = False := eq_false k1
      have k2' : fM_isWord M (hL 7748677) = false := k2
      exact ⟨false, I2, G, M2, by simp only [hI_lit, hL_lit, hI_neg, hI_add, hI_sub, bnd_s, bnd2_s, bnd3_s, ↓reduceIte, eq_self, if_true, if_false, Bool.false_eq_true, Bool.true_eq_false, a1, k1', b1], by simp only [hI_lit, hL_lit, hI_neg, hI_add, hI_sub, bnd_s, bnd2_s, bnd3_s, ↓reduceIte, eq_self, if_true, if_false, Bool.false_eq_true, Bool.true_eq_false, gd, k2', b2, gb, b_gores b3], fRd_go b4, Or.inr ⟨rfl, b3⟩⟩
  · have gb := er_good a5
    have k1' : (hL 0 = hL 444200870501) = False := eq_false (by decide)
    exact ⟨false, I2, G, M1, by simp only [hI_lit, hL_lit, hI_neg, hI_add, hI_sub, bnd_s, bnd2_s, bnd3_s, ↓reduceIte, eq_self, if_true, if_false, Bool.false_eq_true, Bool.true_eq_false, a1, k1', a2], by simp only [hI_lit, hL_lit, hI_neg, hI_add, hI_sub, bnd_s, bnd2_s, bnd3_s, ↓reduceIte, eq_self, if_true, if_false, Bool.false_eq_true, Bool.true_eq_false, gd, a4, a3, gb, b_gores a5], fRd_go a6, Or.inr ⟨rfl, a5⟩⟩
/-- the reader, both sides -/
theorem t_read {J : zI} (h : hAh n 0 J M) (hr : hR G1 bS) (e : hm M = bS) (e1 : fG_clear G = some G1) (e2 : fI_start I = some J) : ∃ t I1 G1 M1, fD_read I G = some (t, I1, G1) ∧ (bnd (fM_mustWord M 7748677) fun M18 => bnd (fM_goresLine M18) fun M20 => iter (fun s => fM_readText_b23 s) fu M20) = fM_readText_j50 M1 ∧ fRd M M1 ∧ ((t = true ∧ (mF M1 8 = hI 0 ∧ mF M1 9 = hI (-1) ∧ iF I1 8 = hI 0 ∧ iF I1 9 = hI (-1)) ∧ hR G1 (hm M1) ∧ hV 48240 (hm M1) ∧ 2 ≤ hm M1 0) ∨ (t = false ∧ hEr I1 M1)) := by
  unfold fD_read
  rw [e1, bnd_s, e2, bnd_s]
  have hr0 : hR G1 (hm M) := by rw [e]; exact hr
  obtain ⟨t, I1, G2, M1, a1, a2, a3, a4⟩ := t_first (B := 0) h hr0 e (by omega)
  have a2' : (bnd (fM_mustWord M 7748677) fun M18 => bnd (fM_goresLine M18) fun M20 => iter (fun s => fM_readText_b23 s) fu M20) = iter (fun s => fM_readText_b23 s) fu M1 := by
    generalize fM_mustWord M 7748677 = o at a2
    cases o with
    | none => exact absurd a2 (by intro z; cases z)
    | some N =>
      have a2'' : fM_goresLine N = some M1 := a2
      rw [bnd_s, a2'', bnd_s]
  rw [a1, a2', bnd3_s]
  rcases a4 with ⟨rfl, b1, b2, b3, b4⟩ | ⟨rfl, b1⟩
  · obtain ⟨t, I3, G3, M3, c1, c2, c3, c4⟩ := t_lines (B0 := 0) (M0 := M1) (by omega) 200 0 0 I1 G2 M1 fu fu (by omega) (by unfold fu; omega) (by unfold fu; omega) b1 (by omega) b2 (hV_le (by omega) b3) rfl fRd_rf
    refine ⟨t, I3, G3, M3, ?_, c2, fRd_tr a3 c3, ?_⟩
    · rw [if_pos rfl]; exact c1
    · rcases c4 with ⟨d1, d2, d3, d4, d5⟩ | d
      · exact Or.inl ⟨d1, d2, d3, hV_le (by omega) d4, by rw [d5]; exact b4⟩
      · exact Or.inr d
  · have g := er_good b1
    exact ⟨false, I1, G2, M1, by rw [if_neg Bool.false_ne_true], it_ex2 (n := 999999) (show fM_readText_b23 M1 = _ by unfold fM_readText_b23; simp only [hI_lit, hL_lit, hI_neg, hI_add, hI_sub, bnd_s, bnd2_s, bnd3_s, ↓reduceIte, eq_self, if_true, if_false, Bool.false_eq_true, Bool.true_eq_false, g]), a3, Or.inr ⟨rfl, b1⟩⟩
end HIK

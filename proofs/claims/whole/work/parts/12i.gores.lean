/-! THE WIDTHS -/
section HII
variable {σ τ : Int → Int} {M M0 M1 M2 : zM} {I I1 I2 : zI} {G G1 : zG} {B n p p0 q k v x c g lo hi s : Int} {l : List Int}
theorem t_looksAt (h : hAt n p I M) (l1 : 0 ≤ lo) (l2 : lo ≤ 9999) (u1 : -1 ≤ hi) (u2 : hi ≤ 9999) :
    (∃ v, iF I 4 = hI 2 ∧ mF M 6 = hI 2 ∧ iF I 6 = hI v ∧ 0 ≤ v ∧ v ≤ 9999 ∧ lo ≤ v ∧ v ≤ hi ∧ fM_looks M (hI lo) (hI hi) = some (hI v, M)) ∨
    (∃ v I1 M1, iF I 4 = hI 2 ∧ mF M 6 = hI 2 ∧ iF I 6 = hI v ∧ 0 ≤ v ∧ v ≤ 9999 ∧ ¬ (lo ≤ v ∧ v ≤ hi) ∧ fI_fail I (hI 2) = some (false, I1) ∧ fM_looks M (hI lo) (hI hi) = some (hI v, M1) ∧ hEr I1 M1 ∧ fGo M M1) ∨
    (∃ w I1 M1, (iF I 4 = hI 2) = False ∧ (mF M 6 = hI 2) = False ∧ fI_fail I (hI 1) = some (false, I1) ∧ fM_wrong M (hI 1) = some M1 ∧ fM_looks M (hI lo) (hI hi) = some (w, M1) ∧ hEr I1 M1 ∧ fGo M M1) := by
  obtain ⟨kd, k1, k2, k3, k4, k5⟩ := tok h
  have g := at_good h
  unfold fM_looks fM_looks_j20 fM_looks_j47
  rw [g, if_pos rfl, if_pos rfl, k4, show (2 : Int32) = hI 2 from rfl, show (1 : Int32) = hI 1 from rfl, ieq (by omega) (by omega) (by omega) (by omega)]
  by_cases c2 : kd = 2
  · obtain ⟨v, v1, v2, v3, v4⟩ := k5.2.2.1 c2
    rw [if_pos c2, v4, isIn_d (by omega) (by omega) (by omega) (by omega) (by omega) (by omega), k3, c2]
    by_cases ci : lo ≤ v ∧ v ≤ hi
    · rw [decide_eq_true ci, if_pos rfl]
      exact Or.inl ⟨v, rfl, rfl, v3, v1, v2, ci.1, ci.2, rfl⟩
    · obtain ⟨I2, M2, b1, b2, b3, b4⟩ := t_fail h (c := 2) (by omega) (by omega) (fun e => by rw [k3, c2] at e; exact absurd e (by decide))
      have e7 : mF M2 7 = hI v := by
        have : M2 = wmF (wmF M 8 (hI 2)) 9 (mF (wmF M 8 (hI 2)) 5) := by
          unfold fM_wrong fM_wrong_j22 at b2
          rw [h.2.2.2.2.2.1, k4, c2] at b2
          have b2' : some (wmF (wmF M 8 (hI 2)) 9 (mF (wmF M 8 (hI 2)) 5)) = some M2 := b2
          injection b2' with b2''
          exact b2''.symm
        rw [this, mF_ne (by decide), mF_ne (by decide), v4]
      rw [decide_eq_false ci, if_neg Bool.false_ne_true, b2, bnd_s, e7]
      exact Or.inr (Or.inl ⟨v, I2, M2, rfl, rfl, v3, v1, v2, ci, b1, rfl, b3, b4⟩)
  · obtain ⟨I2, M2, b1, b2, b3, b4⟩ := t_fail h (c := 1) (by omega) (by omega) (fun _ => rfl)
    have nk : (hI kd = hI 2) = False := by rw [hI_eq (by omega) (by omega) (by omega) (by omega)]; exact eq_false c2
    rw [if_neg c2, b2, bnd_s, er_good b3, k3]
    exact Or.inr (Or.inr ⟨_, I2, M2, nk, nk, b1, rfl, rfl, b3, b4⟩)
/-- one gore more -/
def gS (σ : Int → Int) (g v : Int) : Int → Int := hu (hu (hu σ (14 + g) v) (26 + g) 20) 0 (g + 1)
theorem gS_bg (g1 : 0 ≤ g) (g2 : g < 12) (h : k ≤ g) : bg (gS σ g v) k = bg σ k := by
  unfold gS
  rw [bg_u (by omega), bg_u (by omega), bg_u (by omega)]
theorem gS_bg2 (g1 : 0 ≤ g) (g2 : g < 12) (v1 : 0 ≤ v) (v2 : v ≤ 360) : bg (gS σ g v) (g + 1) = bg σ g + v := by
  rw [bg_s g1, gS_bg g1 g2 (Int.le_refl g)]
  unfold gS
  rw [hu_ne (by omega), hu_ne (by omega), hu_same, hw_id (by omega) (by omega)]
theorem gS_w (g1 : 0 ≤ g) {w : Int} (h1 : w ≠ 14 + g) (h2 : w ≠ 26 + g) (h3 : w ≠ 0) : gS σ g v w = σ w := by
  unfold gS
  rw [hu_ne h3, hu_ne h2, hu_ne h1]
theorem gS_0 (g1 : 0 ≤ g) (g2 : g < 12) : gS σ g v 0 = g + 1 := by
  unfold gS
  rw [hu_same, hw_id (by omega) (by omega)]
theorem gS_14 (g1 : 0 ≤ g) (g2 : g < 12) (v1 : 0 ≤ v) (v2 : v ≤ 360) : gS σ g v (14 + g) = v := by
  unfold gS
  rw [hu_ne (by omega), hu_ne (by omega), hu_same, hw_id (by omega) (by omega)]
theorem gS_26 (g1 : 0 ≤ g) (g2 : g < 12) : gS σ g v (26 + g) = 20 := by
  unfold gS
  rw [hu_ne (by omega), hu_same, hw_id (by omega) (by omega)]
theorem g_addGore (hr : hR G σ) (hv : hV B σ) (e0 : σ 0 = g) (g2 : g < 12) (s1 : σ 1 = 0) (s2 : σ 2 = 0) (v1 : 10 ≤ v) (v2 : v ≤ 350) (vs : bg σ g + v ≤ 360) : ∃ G1, fC_addGore G (hI v) = some G1 ∧ hR G1 (gS σ g v) ∧ hV B (gS σ g v) := by
  have g1 : 0 ≤ g := by rw [← e0]; exact hv.1.1.1
  have rg : gF G 1 0 = hI g := by rw [← e0]; exact r_gores hr
  have e : fC_addGore G (hI v) = fC_addGore_j52 G (hI v) (hI (bg σ g)) (hI g) := by
    unfold fC_addGore
    rw [rg, show (12 : Int32) = hI 12 from rfl, show (0 : Int32) = hI 0 from rfl, ilt (by omega) (by omega) (by omega) (by omega), if_pos g2, ieq (by omega) (by omega) (by omega) (by omega)]
    by_cases c : g = 0
    · rw [if_pos c, c]; rfl
    · rw [if_neg c, show (1 : Int32) = hI 1 from rfl, hI_sub, r_begin hr (by omega) (by omega) (by omega), bnd_s, r_width hr (by omega) (by omega) (by omega), bnd_s, hI_add, ← bg_s (by omega), show g - 1 + 1 = g by omega]
  refine ⟨wgF (wgA (wgA (wgA G 3 (upd (gA G 3) g.toNat (hI (bg σ g)))) 2 (upd (gA G 2) g.toNat (hI v))) 4 (upd (gA G 4) g.toNat (hI 20))) 1 0 (hI (g + 1)), ?_, ⟨⟨?_, ?_, ?_, ?_, ?_⟩, fun b b1 b2 => ?_, fun k k1 k2 => ?_, fun k k1 k2 => ?_, fun k k1 k2 => ?_⟩, ?_⟩
  · rw [e]
    unfold fC_addGore_j52
    have f1 : ∀ f, gF (wgA G 3 f) 1 0 = hI g := fun f => rg
    have f2 : ∀ f f', gF (wgA (wgA G 3 f) 2 f') 1 0 = hI g := fun f f' => rg
    have f3 : ∀ f f' f'', gF (wgA (wgA (wgA G 3 f) 2 f') 4 f'') 1 0 = hI g := fun f f' f'' => rg
    rw [wr_hI (by omega) (by omega) (by omega), bnd_s, bnd_s, f1, wr_hI (by omega) (by omega) (by omega), bnd_s, bnd_s, f2, wr_hI (by omega) (by omega) (by omega), bnd_s, bnd_s, f3, show (1 : Int32) = hI 1 from rfl, show (20 : Int32) = hI 20 from rfl, hI_add]
    rfl
  · rw [gS_0 g1 g2, gF_w, if_pos ⟨rfl, rfl⟩]
  · rw [gS_w g1 (by omega) (by omega) (by omega)]; exact hr.1.2.1
  · rw [gS_w g1 (by omega) (by omega) (by omega)]; exact hr.1.2.2.1
  · rw [gS_w g1 (by omega) (by omega) (by omega)]; exact hr.1.2.2.2.1
  · rw [gS_w g1 (by omega) (by omega) (by omega)]; exact hr.1.2.2.2.2
  · rw [gS_w g1 (by omega) (by omega) (by omega)]; exact hr.2.1 b b1 b2
  · rw [gS_0 g1 g2] at k2
    by_cases d : k = g
    · subst d
      refine ⟨?_, ?_, ?_⟩
      · rw [gS_14 g1 g2 (by omega) (by omega)]
        show upd (gA G 2) k.toNat (hI v) k.toNat = _
        rw [upd_w, if_pos rfl]
      · rw [gS_bg g1 g2 (Int.le_refl k)]
        show upd (gA G 3) k.toNat (hI (bg σ k)) k.toNat = _
        rw [upd_w, if_pos rfl]
      · rw [gS_26 g1 g2]
        show upd (gA G 4) k.toNat (hI 20) k.toNat = _
        rw [upd_w, if_pos rfl]
    · have hk := hr.2.2.1 k k1 (by omega)
      refine ⟨?_, ?_, ?_⟩
      · rw [gS_w g1 (by omega) (by omega) (by omega)]
        show upd (gA G 2) g.toNat (hI v) k.toNat = _
        rw [upd_w, if_neg (by omega)]; exact hk.1
      · rw [gS_bg g1 g2 (by omega)]
        show upd (gA G 3) g.toNat (hI (bg σ g)) k.toNat = _
        rw [upd_w, if_neg (by omega)]; exact hk.2.1
      · rw [gS_w g1 (by omega) (by omega) (by omega)]
        show upd (gA G 4) g.toNat (hI 20) k.toNat = _
        rw [upd_w, if_neg (by omega)]; exact hk.2.2
  · rw [gS_w g1 (by omega) (by omega) (by omega), s1] at k2; omega
  · rw [gS_w g1 (by omega) (by omega) (by omega), s2] at k2; omega
  · obtain ⟨⟨h1, h2, h3, h4⟩, h5, h6, h7, h8, h9, h10⟩ := hv
    refine ⟨⟨?_, ?_, ?_, ?_⟩, fun b b1 b2 => ?_, fun k k1 k2 => ?_, fun k k1 k2 => ?_, fun k k1 k2 => ?_, fun j k k1 k2 k3 => ?_, fun w => ?_⟩
    · rw [gS_0 g1 g2]; omega
    · rw [gS_w g1 (by omega) (by omega) (by omega)]; exact h2
    · rw [gS_w g1 (by omega) (by omega) (by omega)]; exact h3
    · rw [gS_w g1 (by omega) (by omega) (by omega)]; exact h4
    · rw [gS_w g1 (by omega) (by omega) (by omega)]; exact h5 b b1 b2
    · rw [gS_0 g1 g2] at k2
      by_cases d : k = g
      · subst d
        rw [gS_14 g1 g2 (by omega) (by omega), gS_26 g1 g2, gS_bg2 g1 g2 (by omega) (by omega)]
        omega
      · have hk := h6 k k1 (by omega)
        rw [gS_w g1 (by omega) (by omega) (by omega), gS_w g1 (by omega) (by omega) (by omega), gS_bg g1 g2 (by omega)]
        exact hk
    · rw [gS_w g1 (by omega) (by omega) (by omega), s1] at k2; omega
    · rw [gS_w g1 (by omega) (by omega) (by omega), s2] at k2; omega
    · rw [gS_w g1 (by omega) (by omega) (by omega), s2] at k3; omega
    · unfold gS hu
      split
      · exact hw_r
      · split
        · exact hw_r
        · split
          · exact hw_r
          · exact h10 w
theorem m_addGore (e0 : hm M 0 = g) (g1 : 0 ≤ g) (g2 : g < 12) : ∃ M1, fM_addsGore M (hI v) = some M1 ∧ hm M1 = gS (hm M) g v ∧ hfr M M1 := by
  refine ⟨mW (mW (mW M (14 + g) v) (26 + g) 20) 0 (g + 1), ?_, ?_, hfr_W (hfr_W (hfr_W hfr_rf))⟩
  · unfold fM_addsGore
    have f1 : hm (mW M (14 + g) v) 0 = g := by rw [hm_mW (by omega) (by omega), hu_ne (by omega), e0]
    have f2 : hm (mW (mW M (14 + g) v) (26 + g) 20) 0 = g := by rw [hm_mW (by omega) (by omega), hu_ne (by omega), f1]
    rw [m_0, e0, show (14 : Int32) = hI 14 from rfl, hI_add, mwr (by omega) (by omega), bnd_s, mW_of, bnd_s, m_0, f1, show (26 : Int32) = hI 26 from rfl, hI_add, show (20 : Int32) = hI 20 from rfl, mwr (by omega) (by omega), bnd_s, mW_of, bnd_s, m_0, f2, show (1 : Int32) = hI 1 from rfl, hI_add, mW_0, bnd_s]
  · unfold gS
    rw [hm_mW (by omega) (by omega), hm_mW (by omega) (by omega), hm_mW (by omega) (by omega)]
end HII

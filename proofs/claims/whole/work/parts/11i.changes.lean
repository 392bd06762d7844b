/-! THE HEM, STITCHES, RIPPING -/
section HHI
variable {σ τ : Int → Int} {M M1 M2 : zM} {G Go : zG} {z v w k B b m d : Int}
theorem abs_I {x y : Int} (x1 : -1000 ≤ x) (x2 : x < 1000) (y1 : -1000 ≤ y) (y2 : y < 1000) : fJ_abs_0f7a4 (hI x - hI y) = hI (if x < y then y - x else x - y) := by
  unfold fJ_abs_0f7a4
  rw [hI_sub, show (0 : Int32) = hI 0 from rfl, ilt (by omega) (by omega) (by omega) (by omega), hI_neg]
  by_cases h : x < y
  · rw [if_pos (by omega), if_pos h]; congr 1; omega
  · rw [if_neg (by omega), if_neg h]
theorem gap_I {x y : Int} (x1 : -1000 ≤ x) (x2 : x < 1000) (y1 : -1000 ≤ y) (y2 : y < 1000) : fM_gap (hI x) (hI y) = hI (if x < y then y - x else x - y) := by
  unfold fM_gap
  rw [ilt (by omega) (by omega) (by omega) (by omega), hI_sub, hI_sub]
  split <;> rfl
def gp (x y : Int) : Int := if x < y then y - x else x - y
theorem gp_r {x y : Int} (x1 : 0 ≤ x) (x2 : x < 360) (y1 : 0 ≤ y) (y2 : y < 360) : 0 ≤ gp x y ∧ gp x y < 360 := by
  unfold gp
  split <;> omega
theorem gp_c {x y : Int} : gp x y = gp y x := by
  unfold gp
  split <;> split <;> omega
theorem g_wide {x y : Int} (x1 : 0 ≤ x) (x2 : x < 360) (y1 : 0 ≤ y) (y2 : y < 360) : fG_isWide (hI x) (hI y) = decide (60 < gp x y) := by
  have hg := gp_r x1 x2 y1 y2
  unfold fG_isWide
  rw [abs_I (by omega) (by omega) (by omega) (by omega), show (60 : Int32) = hI 60 from rfl]
  show (if hI 60 < hI (gp x y) then true else false) = _
  rw [ilt (by omega) (by omega) (by omega) (by omega)]
  by_cases h : 60 < gp x y
  · rw [if_pos h, decide_eq_true h]
  · rw [if_neg h, decide_eq_false h]
theorem isBand_d (b1 : -2147483648 ≤ b) (b2 : b < 2147483648) : fM_isBand (hI b) = decide (0 ≤ b ∧ b ≤ 8) := by
  unfold fM_isBand
  rw [show (0 : Int64) = hL 0 from rfl, show (8 : Int64) = hL 8 from rfl]
  exact isIn_e b1 b2 (by omega) (by omega) (by omega) (by omega)
theorem m_far (h : hV B (hm M)) (b1 : -1 ≤ b) (b2 : b ≤ 9) (m1 : 0 ≤ m) (m2 : m < 360) : fM_isFar M (hI b) (hI m) = some (decide ((0 ≤ b ∧ b ≤ 8) ∧ 60 < gp (hm M (5 + b)) m)) := by
  unfold fM_isFar
  rw [isBand_d (by omega) (by omega)]
  by_cases c : 0 ≤ b ∧ b ≤ 8
  · have hq := h.2.1 b (by omega) (by omega)
    have hg := gp_r (x := hm M (5 + b)) (y := m) (by omega) (by omega) m1 m2
    rw [decide_eq_true c, if_pos rfl, show (5 : Int32) = hI 5 from rfl, hI_add, mrd (by omega) (by omega), bnd_s, gap_I (by omega) (by omega) (by omega) (by omega), show (60 : Int32) = hI 60 from rfl]
    show (if hI 60 < hI (gp (hm M (5 + b)) m) then some true else some false) = _
    rw [ilt (by omega) (by omega) (by omega) (by omega)]
    by_cases h : 60 < gp (hm M (5 + b)) m
    · rw [if_pos h, decide_eq_true ⟨c, h⟩]
    · rw [if_neg h, decide_eq_false (fun z => h z.2)]
  · rw [decide_eq_false c, if_neg (by decide), decide_eq_false (fun z => c z.1)]
def pr (σ : Int → Int) (b m : Int) : Int := (gp (σ (5 + b)) m + 4) / 5
theorem g_price (hr : hR G σ) (h : hV B σ) (b1 : 0 ≤ b) (b2 : b < 9) (m1 : 0 ≤ m) (m2 : m < 360) : fG_hemPrice G (hI b) (hI m) = some (hI (pr σ b m)) := by
  have hq := h.2.1 b b1 b2
  have hg := gp_r (x := m) (y := σ (5 + b)) m1 m2 (by omega) (by omega)
  unfold fG_hemPrice
  rw [r_hem hr b1 b2, bnd_s, abs_I (by omega) (by omega) (by omega) (by omega), show (4 : Int32) = hI 4 from rfl, show (5 : Int32) = hI 5 from rfl]
  show some ((hI (gp m (σ (5 + b))) + hI 4) / hI 5) = _
  rw [hI_add, hI_div (by omega) (by omega) (by omega) (by omega), gp_c]
  rfl
theorem m_price (h : hV B (hm M)) (b1 : 0 ≤ b) (b2 : b < 9) (m1 : 0 ≤ m) (m2 : m < 360) : fM_threadFor (hI (hm M (5 + b))) (hI m) = hI (pr (hm M) b m) := by
  have hq := h.2.1 b b1 b2
  have hg := gp_r (x := hm M (5 + b)) (y := m) (by omega) (by omega) m1 m2
  unfold fM_threadFor
  rw [gap_I (by omega) (by omega) (by omega) (by omega), show (4 : Int32) = hI 4 from rfl, show (5 : Int32) = hI 5 from rfl]
  show (hI (gp (hm M (5 + b)) m) + hI 4) / hI 5 = _
  rw [hI_add, hI_div (by omega) (by omega) (by omega) (by omega)]
  rfl
theorem t_wbc (hr : hR G (hm M)) (h : hV B (hm M)) (b1 : 0 ≤ b) (b2 : b < 9) (m1 : 0 ≤ m) (m2 : m < 360) : ∃ t : Bool, fG_hemHindrance_j58 G (hI b) (hI m) = some (hI (if t = true then 3 else if hm M 3 < pr (hm M) b m then 4 else 0)) ∧ fM_wouldBeCrossed M (hI b) (hI m) = some t := by
  have h2 := h.1.2.2.1
  have hq := h.2.1 b b1 b2
  have hg := gp_r (x := hm M (5 + b)) (y := m) (by omega) (by omega) m1 m2
  have h3 := h.2.2.2.2.2.2 3
  have hp : 0 ≤ pr (hm M) b m ∧ pr (hm M) b m < 1000 := by unfold pr; omega
  have key : ∃ r1 r2, iter (fun s => fG_hemHindrance_b60 G (hI b) (hI m) s) fu 0 = some r1 ∧ iter (fun s => fM_wouldBeCrossed_b2 M (hI b) (hI m) s) fu 0 = some r2 ∧ r1 = hI (if r2 = true then 3 else if hm M 3 < pr (hm M) b m then 4 else 0) := by
    refine it_two (hm M 2).toNat (fun i s1 s2 => s1 = hI i ∧ s2 = hI i) _ (by omega) ⟨rfl, rfl⟩ ?_
    rintro i s1 s2 hi ⟨rfl, rfl⟩
    unfold fG_hemHindrance_b60 fM_wouldBeCrossed_b2
    by_cases c : (i : Int) < hm M 2
    · have k1 : (0 : Int) ≤ i := by omega
      have hl := h.2.2.2.2.1 i k1 c
      unfold hVl at hl
      obtain ⟨t, et, ht⟩ := g_cross hr h (k := i) (m := m) k1 c (by omega) (by omega)
      obtain ⟨u, eu, hu0⟩ := m_cross h (k := i) (m := m) k1 c (by omega) (by omega)
      have : u = t := by rw [Bool.eq_iff_iff, ht, hu0]
      subst this
      by_cases cb : hm M (128 + 4 * (i : Int) + 0) = b
      · cases u with
        | true =>
          simp (disch := omega) only [↓reduceIte, Int.reduceEq, Int.reduceLT, bnd_s, bnd2_s, bnd3_s, hI_lit, hL_lit, hI_add, hI_sub, hI_mul, hI_neg, hI_lt, hI_eq, if_true, if_false, eq_self_iff_true, true_and, and_true, false_and, and_false, decide_eq_true_eq, not_true, not_false_iff, Bool.false_eq_true, Bool.true_eq_false, mrd, mwr, mW_of, mW_0, mW_1, mW_2, mW_3, mW_4, m_0, m_1, m_2, m_3, m_4, hm_mW, hu_same, hu_ne, hw_id, hm_L, m_of, m_its, m_trav, fM_spt, fM_lbl, r_labels hr, c, rix_hI, r_l0 hr k1 c, cb, et, eu]
          exact Or.inr ⟨_, _, rfl, rfl, by rw [if_pos rfl]⟩
        | false =>
          simp (disch := omega) only [↓reduceIte, Int.reduceEq, Int.reduceLT, bnd_s, bnd2_s, bnd3_s, hI_lit, hL_lit, hI_add, hI_sub, hI_mul, hI_neg, hI_lt, hI_eq, if_true, if_false, eq_self_iff_true, true_and, and_true, false_and, and_false, decide_eq_true_eq, not_true, not_false_iff, Bool.false_eq_true, Bool.true_eq_false, mrd, mwr, mW_of, mW_0, mW_1, mW_2, mW_3, mW_4, m_0, m_1, m_2, m_3, m_4, hm_mW, hu_same, hu_ne, hw_id, hm_L, m_of, m_its, m_trav, fM_spt, fM_lbl, r_labels hr, c, rix_hI, r_l0 hr k1 c, cb, et, eu]
          exact Or.inl ⟨by omega, _, _, rfl, rfl, rfl, rfl⟩
      · simp (disch := omega) only [↓reduceIte, Int.reduceEq, Int.reduceLT, bnd_s, bnd2_s, bnd3_s, hI_lit, hL_lit, hI_add, hI_sub, hI_mul, hI_neg, hI_lt, hI_eq, if_true, if_false, eq_self_iff_true, true_and, and_true, false_and, and_false, decide_eq_true_eq, not_true, not_false_iff, Bool.false_eq_true, Bool.true_eq_false, mrd, mwr, mW_of, mW_0, mW_1, mW_2, mW_3, mW_4, m_0, m_1, m_2, m_3, m_4, hm_mW, hu_same, hu_ne, hw_id, hm_L, m_of, m_its, m_trav, fM_spt, fM_lbl, r_labels hr, c, rix_hI, r_l0 hr k1 c, cb, et, eu]
        exact Or.inl ⟨by omega, _, _, rfl, rfl, rfl, rfl⟩
    · by_cases ct : hm M 3 < pr (hm M) b m
      · simp (disch := omega) only [↓reduceIte, Int.reduceEq, Int.reduceLT, bnd_s, bnd2_s, bnd3_s, hI_lit, hL_lit, hI_add, hI_sub, hI_mul, hI_neg, hI_lt, hI_eq, if_true, if_false, eq_self_iff_true, true_and, and_true, false_and, and_false, decide_eq_true_eq, not_true, not_false_iff, Bool.false_eq_true, Bool.true_eq_false, mrd, mwr, mW_of, mW_0, mW_1, mW_2, mW_3, mW_4, m_0, m_1, m_2, m_3, m_4, hm_mW, hu_same, hu_ne, hw_id, hm_L, m_of, m_its, m_trav, fM_spt, fM_lbl, r_labels hr, c, g_price hr h b1 b2 m1 m2, r_thread hr, ct]
        exact Or.inr ⟨_, _, rfl, rfl, by rw [if_neg (by decide)]⟩
      · simp (disch := omega) only [↓reduceIte, Int.reduceEq, Int.reduceLT, bnd_s, bnd2_s, bnd3_s, hI_lit, hL_lit, hI_add, hI_sub, hI_mul, hI_neg, hI_lt, hI_eq, if_true, if_false, eq_self_iff_true, true_and, and_true, false_and, and_false, decide_eq_true_eq, not_true, not_false_iff, Bool.false_eq_true, Bool.true_eq_false, mrd, mwr, mW_of, mW_0, mW_1, mW_2, mW_3, mW_4, m_0, m_1, m_2, m_3, m_4, hm_mW, hu_same, hu_ne, hw_id, hm_L, m_of, m_its, m_trav, fM_spt, fM_lbl, r_labels hr, c, g_price hr h b1 b2 m1 m2, r_thread hr, ct]
        exact Or.inr ⟨_, _, rfl, rfl, by rw [if_neg (by decide)]⟩
  obtain ⟨r1, r2, q1, q2, q3⟩ := key
  exact ⟨r2, by rw [← q3]; exact q1, q2⟩
theorem t_hemWhy (hr : hR G (hm M)) (h : hV B (hm M)) (b1 : 0 ≤ b) (b2 : b < 9) (m1 : 0 ≤ m) (m2 : m < 360) : ∃ x : Int, 0 ≤ x ∧ x ≤ 4 ∧ fG_hemHindrance G (hI b) (hI m) = some (hI x) ∧ fM_hemWhy M (hI b) (hI m) = some (hI x) ∧ (x = 0 → 1 ≤ m ∧ m ≠ hm M (5 + b)) := by
  have hq := h.2.1 b b1 b2
  have h3 := h.2.2.2.2.2.2 3
  have hg := gp_r (x := hm M (5 + b)) (y := m) (by omega) (by omega) m1 m2
  have hp : 0 ≤ pr (hm M) b m ∧ pr (hm M) b m < 1000 := by unfold pr; omega
  obtain ⟨t, e1, e2⟩ := t_wbc hr h b1 b2 m1 m2
  by_cases c1 : m = hm M (5 + b)
  · refine ⟨1, by omega, by omega, ?_, ?_, fun z => by omega⟩
    · unfold fG_hemHindrance
      simp (disch := omega) only [↓reduceIte, Int.reduceEq, Int.reduceLT, bnd_s, bnd2_s, bnd3_s, hI_lit, hL_lit, hI_add, hI_sub, hI_mul, hI_neg, hI_lt, hI_eq, if_true, if_false, eq_self_iff_true, true_and, and_true, false_and, and_false, decide_eq_true_eq, not_true, not_false_iff, Bool.false_eq_true, Bool.true_eq_false, r_hem hr, c1]
    · unfold fM_hemWhy
      by_cases c0 : hm M (5 + b) = 0 <;> simp (disch := omega) only [↓reduceIte, Int.reduceEq, Int.reduceLT, bnd_s, bnd2_s, bnd3_s, hI_lit, hL_lit, hI_add, hI_sub, hI_mul, hI_neg, hI_lt, hI_eq, if_true, if_false, eq_self_iff_true, true_and, and_true, false_and, and_false, decide_eq_true_eq, not_true, not_false_iff, Bool.false_eq_true, Bool.true_eq_false, mrd, c1, c0]
  · by_cases c2 : m = 0
    · refine ⟨1, by omega, by omega, ?_, ?_, fun z => by omega⟩
      · unfold fG_hemHindrance
        rw [r_hem hr b1 b2, bnd_s, ieq (by omega) (by omega) (by omega) (by omega), if_neg c1, show (0 : Int32) = hI 0 from rfl, ieq (by omega) (by omega) (by omega) (by omega), if_pos c2]; rfl
      · unfold fM_hemWhy
        rw [show (5 : Int32) = hI 5 from rfl, hI_add, mrd (by omega) (by omega), bnd_s, show (0 : Int32) = hI 0 from rfl, ieq (by omega) (by omega) (by omega) (by omega), if_pos c2]; rfl
    · by_cases c3 : 0 < b ∧ 60 < gp (hm M (5 + (b - 1))) m
      · have hq1 := h.2.1 (b - 1) (by omega) (by omega)
        refine ⟨2, by omega, by omega, ?_, ?_, fun z => by omega⟩
        · unfold fG_hemHindrance
          have cb := c3.1
          simp (disch := omega) only [↓reduceIte, Int.reduceEq, Int.reduceLT, bnd_s, bnd2_s, bnd3_s, hI_lit, hL_lit, hI_add, hI_sub, hI_mul, hI_neg, hI_lt, hI_eq, if_true, if_false, eq_self_iff_true, true_and, and_true, false_and, and_false, decide_eq_true_eq, not_true, not_false_iff, Bool.false_eq_true, Bool.true_eq_false, r_hem hr, c1, c2, cb, g_wide, c3.2, decide_true]
        · unfold fM_hemWhy
          have cd : ((0 ≤ b - 1 ∧ b - 1 ≤ 8) ∧ 60 < gp (hm M (5 + (b - 1))) m) = True := eq_true ⟨by omega, c3.2⟩
          simp (disch := omega) only [↓reduceIte, Int.reduceEq, Int.reduceLT, bnd_s, bnd2_s, bnd3_s, hI_lit, hL_lit, hI_add, hI_sub, hI_mul, hI_neg, hI_lt, hI_eq, if_true, if_false, eq_self_iff_true, true_and, and_true, false_and, and_false, decide_eq_true_eq, not_true, not_false_iff, Bool.false_eq_true, Bool.true_eq_false, mrd, c1, c2, m_far h, cd, decide_true]
      · have eG : fG_hemHindrance G (hI b) (hI m) = fG_hemHindrance_j35 G (hI b) (hI m) := by
          unfold fG_hemHindrance
          by_cases cb : 0 < b
          · have hq1 := h.2.1 (b - 1) (by omega) (by omega)
            have c4 : ¬ 60 < gp (hm M (5 + (b - 1))) m := fun z => c3 ⟨cb, z⟩
            simp (disch := omega) only [↓reduceIte, Int.reduceEq, Int.reduceLT, bnd_s, bnd2_s, bnd3_s, hI_lit, hL_lit, hI_add, hI_sub, hI_mul, hI_neg, hI_lt, hI_eq, if_true, if_false, eq_self_iff_true, true_and, and_true, false_and, and_false, decide_eq_true_eq, not_true, not_false_iff, Bool.false_eq_true, Bool.true_eq_false, r_hem hr, c1, c2, cb, g_wide, c4, decide_false]
          · simp (disch := omega) only [↓reduceIte, Int.reduceEq, Int.reduceLT, bnd_s, bnd2_s, bnd3_s, hI_lit, hL_lit, hI_add, hI_sub, hI_mul, hI_neg, hI_lt, hI_eq, if_true, if_false, eq_self_iff_true, true_and, and_true, false_and, and_false, decide_eq_true_eq, not_true, not_false_iff, Bool.false_eq_true, Bool.true_eq_false, r_hem hr, c1, c2, cb]
        rw [eG]
        have cd : ((0 ≤ b - 1 ∧ b - 1 ≤ 8) ∧ 60 < gp (hm M (5 + (b - 1))) m) = False := eq_false (fun z => c3 ⟨by omega, z.2⟩)
        by_cases c5 : b < 8 ∧ 60 < gp (hm M (5 + (b + 1))) m
        · have hq1 := h.2.1 (b + 1) (by omega) (by omega)
          refine ⟨2, by omega, by omega, ?_, ?_, fun z => by omega⟩
          · unfold fG_hemHindrance_j35
            have cb := c5.1
            simp (disch := omega) only [↓reduceIte, Int.reduceEq, Int.reduceLT, bnd_s, bnd2_s, bnd3_s, hI_lit, hL_lit, hI_add, hI_sub, hI_mul, hI_neg, hI_lt, hI_eq, if_true, if_false, eq_self_iff_true, true_and, and_true, false_and, and_false, decide_eq_true_eq, not_true, not_false_iff, Bool.false_eq_true, Bool.true_eq_false, r_hem hr, cb, g_wide, c5.2, decide_true]
          · unfold fM_hemWhy
            have ce : ((0 ≤ b + 1 ∧ b + 1 ≤ 8) ∧ 60 < gp (hm M (5 + (b + 1))) m) = True := eq_true ⟨by omega, c5.2⟩
            simp (disch := omega) only [↓reduceIte, Int.reduceEq, Int.reduceLT, bnd_s, bnd2_s, bnd3_s, hI_lit, hL_lit, hI_add, hI_sub, hI_mul, hI_neg, hI_lt, hI_eq, if_true, if_false, eq_self_iff_true, true_and, and_true, false_and, and_false, decide_eq_true_eq, not_true, not_false_iff, Bool.false_eq_true, Bool.true_eq_false, mrd, c1, c2, m_far h, cd, ce, decide_true, decide_false]
        · have eG2 : fG_hemHindrance_j35 G (hI b) (hI m) = fG_hemHindrance_j58 G (hI b) (hI m) := by
            unfold fG_hemHindrance_j35
            by_cases cb : b < 8
            · have hq1 := h.2.1 (b + 1) (by omega) (by omega)
              have c4 : ¬ 60 < gp (hm M (5 + (b + 1))) m := fun z => c5 ⟨cb, z⟩
              simp (disch := omega) only [↓reduceIte, Int.reduceEq, Int.reduceLT, bnd_s, bnd2_s, bnd3_s, hI_lit, hL_lit, hI_add, hI_sub, hI_mul, hI_neg, hI_lt, hI_eq, if_true, if_false, eq_self_iff_true, true_and, and_true, false_and, and_false, decide_eq_true_eq, not_true, not_false_iff, Bool.false_eq_true, Bool.true_eq_false, r_hem hr, cb, g_wide, c4, decide_false]
            · simp (disch := omega) only [↓reduceIte, Int.reduceEq, Int.reduceLT, bnd_s, bnd2_s, bnd3_s, hI_lit, hL_lit, hI_add, hI_sub, hI_mul, hI_neg, hI_lt, hI_eq, if_true, if_false, eq_self_iff_true, true_and, and_true, false_and, and_false, decide_eq_true_eq, not_true, not_false_iff, Bool.false_eq_true, Bool.true_eq_false, cb]
          have ce : ((0 ≤ b + 1 ∧ b + 1 ≤ 8) ∧ 60 < gp (hm M (5 + (b + 1))) m) = False := eq_false (fun z => c5 ⟨by omega, z.2⟩)
          rw [eG2, e1]
          refine ⟨_, ?_, ?_, rfl, ?_, fun z => by omega⟩
          · split <;> (try split) <;> omega
          · split <;> (try split) <;> omega
          · unfold fM_hemWhy
            cases t with
            | true => simp (disch := omega) only [↓reduceIte, Int.reduceEq, Int.reduceLT, bnd_s, bnd2_s, bnd3_s, hI_lit, hL_lit, hI_add, hI_sub, hI_mul, hI_neg, hI_lt, hI_eq, if_true, if_false, eq_self_iff_true, true_and, and_true, false_and, and_false, decide_eq_true_eq, not_true, not_false_iff, Bool.false_eq_true, Bool.true_eq_false, mrd, c1, c2, m_far h, cd, ce, decide_false, e2]
            | false =>
              by_cases ct : hm M 3 < pr (hm M) b m
              · simp (disch := omega) only [↓reduceIte, Int.reduceEq, Int.reduceLT, bnd_s, bnd2_s, bnd3_s, hI_lit, hL_lit, hI_add, hI_sub, hI_mul, hI_neg, hI_lt, hI_eq, if_true, if_false, eq_self_iff_true, true_and, and_true, false_and, and_false, decide_eq_true_eq, not_true, not_false_iff, Bool.false_eq_true, Bool.true_eq_false, mrd, m_3, c1, c2, m_far h, cd, ce, decide_false, e2, m_price h b1 b2 m1 m2, ct]
              · simp (disch := omega) only [↓reduceIte, Int.reduceEq, Int.reduceLT, bnd_s, bnd2_s, bnd3_s, hI_lit, hL_lit, hI_add, hI_sub, hI_mul, hI_neg, hI_lt, hI_eq, if_true, if_false, eq_self_iff_true, true_and, and_true, false_and, and_false, decide_eq_true_eq, not_true, not_false_iff, Bool.false_eq_true, Bool.true_eq_false, mrd, m_3, c1, c2, m_far h, cd, ce, decide_false, e2, m_price h b1 b2 m1 m2, ct]
/-- what a change comes to: its answer and both states -/
def hOutC (B : Int) (M : zM) (G1 : Option (Int32 × zG)) (M1 : Option (Int32 × zM)) : Prop := ∃ n G2 M2, G1 = some (hI n, G2) ∧ M1 = some (hI n, M2) ∧ hR G2 (hm M2) ∧ hV B (hm M2) ∧ hfr M M2 ∧ (hm M2 0 = hm M 0 ∧ hm M2 1 = hm M 1)
theorem t_sew (hr : hR G (hm M)) (h : hV B (hm M)) (k1 : 0 ≤ k) (k2 : k < hm M 0) (v1 : 1 ≤ v) (v2 : hm M (26 + k) + v ≤ 99) : hOutC B M (fG_addStitches G (hI k) (hI v)) (fM_sews M (hI k) (hI v)) := by
  have h0 := h.1.1
  have h1 := h.1.2.1
  have h2 := h.1.2.2.1
  have hq := h.2.2.1 k k1 k2
  have eM : hm (mW (mW M (26 + k) (hm M (26 + k) + v)) 3 (hm M 3 - v)) = hu (hu (hm M) (26 + k) (hm M (26 + k) + v)) 3 (hm M 3 - v) := by rw [hm_mW (by omega) (by omega), hm_mW (by omega) (by omega)]
  refine ⟨hm M (26 + k) + v, wgA (wgF G 0 3 (hI (hm M 3 - v))) 4 (upd (gA (wgF G 0 3 (hI (hm M 3 - v))) 4) k.toNat (hI (hm M (26 + k) + v))), mW (mW M (26 + k) (hm M (26 + k) + v)) 3 (hm M 3 - v), ?_, ?_, ?_, ?_, hfr_W (hfr_W hfr_rf), ?_⟩
  · unfold fG_addStitches
    have r1 : hR (wgF G 0 3 (hI (hm M 3 - v))) (hu (hm M) 3 (hm M 3 - v)) := hR_thread (by omega) (by omega) (by omega) hr
    have e1 : rd 12 (gA (wgF G 0 3 (hI (hm M 3 - v))) 4) (hI k) = some (hI (hm M (26 + k))) := by
      rw [r_stitch r1 k1 (by rw [hu_ne (by omega)]; omega) (by omega), hu_ne (by omega)]
    rw [r_thread hr, hI_sub, bnd_s, e1, bnd_s, hI_add, wr_hI k1 (by omega) (by omega), bnd_s, bnd_s, rd_hI k1 (by omega) (by omega), gA_wA, if_pos rfl, upd_w, if_pos rfl, bnd_s]
  · unfold fM_sews
    simp (disch := omega) only [↓reduceIte, Int.reduceEq, Int.reduceLT, bnd_s, bnd2_s, bnd3_s, hI_lit, hL_lit, hI_add, hI_sub, hI_mul, hI_neg, hI_lt, hI_eq, if_true, if_false, eq_self_iff_true, true_and, and_true, false_and, and_false, decide_eq_true_eq, not_true, not_false_iff, Bool.false_eq_true, Bool.true_eq_false, mrd, mwr, mW_of, mW_0, mW_1, mW_2, mW_3, mW_4, m_0, m_1, m_2, m_3, m_4, hm_mW, hu_same, hu_ne, hw_id, hm_L, m_of, m_its, m_trav, fM_spt, fM_lbl, hI_hw]
  · rw [eM, hu_comm (by omega)]
    refine hR_stitch ?_ ?_ ?_ k1 (by omega) (hR_thread (by omega) (by omega) (by omega) hr)
    all_goals
      rw [hu_ne (by omega)]
      omega
  · rw [eM]
    exact hV_free (Or.inl rfl) (hV_stitch k1 (by omega) (by omega) (by omega) h)
  · rw [eM]
    exact ⟨by rw [hu_ne (by omega), hu_ne (by omega)], by rw [hu_ne (by omega), hu_ne (by omega)]⟩
theorem t_rip (hr : hR G (hm M)) (h : hV B (hm M)) (k1 : 0 ≤ k) (k2 : k < hm M 0) : hOutC B M (fG_openSeam G (hI k)) (fM_rips M (hI k)) := by
  have h0 := h.1.1
  have h1 := h.1.2.1
  have h2 := h.1.2.2.1
  have hq := h.2.2.1 k k1 k2
  have hg := bg_r h k1 k2
  have eM : hm (mW (mW M 3 (hm M 3 + hm M (26 + k) / 2)) (26 + k) 0) = hu (hu (hm M) 3 (hm M 3 + hm M (26 + k) / 2)) (26 + k) 0 := by rw [hm_mW (by omega) (by omega), hm_mW (by omega) (by omega)]
  have r1 : hR (wgF G 0 3 (hI (hm M 3 + hm M (26 + k) / 2))) (hu (hm M) 3 (hm M 3 + hm M (26 + k) / 2)) := hR_thread (by omega) (by omega) (by omega) hr
  have r2 : hR (wgA (wgF G 0 3 (hI (hm M 3 + hm M (26 + k) / 2))) 4 (upd (gA (wgF G 0 3 (hI (hm M 3 + hm M (26 + k) / 2))) 4) k.toNat (hI 0))) (hm (mW (mW M 3 (hm M 3 + hm M (26 + k) / 2)) (26 + k) 0)) := by
    rw [eM]
    refine hR_stitch ?_ ?_ ?_ k1 (by omega) r1
    all_goals
      rw [hu_ne (by omega)]
      omega
  have v2 : hV B (hm (mW (mW M 3 (hm M 3 + hm M (26 + k) / 2)) (26 + k) 0)) := by
    rw [eM]
    exact hV_stitch k1 (by omega) (by omega) (by omega) (hV_free (Or.inl rfl) h)
  have e0 : hm (mW (mW M 3 (hm M 3 + hm M (26 + k) / 2)) (26 + k) 0) 0 = hm M 0 := by rw [eM, hu_ne (by omega), hu_ne (by omega)]
  have e1 : hm (mW (mW M 3 (hm M 3 + hm M (26 + k) / 2)) (26 + k) 0) 1 = hm M 1 := by rw [eM, hu_ne (by omega), hu_ne (by omega)]
  have eb : bg (hm (mW (mW M 3 (hm M 3 + hm M (26 + k) / 2)) (26 + k) 0)) k = bg (hm M) k := by rw [eM, bg_u (by omega), bg_u (by omega)]
  obtain ⟨n, G2, M2, q1, q2, q3, q4, q5, q6, q7⟩ := t_tear (m := bg (hm M) k) r2 v2 (by omega) (by omega)
  refine ⟨n, G2, M2, ?_, ?_, q3, q4, hfr_tr (hfr_W (hfr_W hfr_rf)) q5, ⟨(q6 0 (by omega)).trans e0, (q6 1 (by omega)).trans e1⟩⟩
  · unfold fG_openSeam
    rw [r_stitch hr k1 k2 (by omega), bnd_s, r_thread hr, show (2 : Int32) = hI 2 from rfl, hI_div (by omega) (by omega) (by omega) (by omega), hI_add, bnd_s, show (0 : Int32) = hI 0 from rfl, wr_hI k1 (by omega) (by omega), bnd_s, bnd_s, r_begin r2 k1 (by omega) (by omega), eb, bnd_s, q1]; rfl
  · unfold fM_rips
    have eT : fM_tears (mW (mW M 3 (hm M 3 + hm M (26 + k) / 2)) (26 + k) 0) (hI k) = some (hI n, M2) := by
      unfold fM_tears
      rw [m_begin v2 k1 (by omega), eb, bnd_s, q2]
    simp (disch := omega) only [↓reduceIte, Int.reduceEq, Int.reduceLT, bnd_s, bnd2_s, bnd3_s, hI_lit, hL_lit, hI_add, hI_sub, hI_mul, hI_neg, hI_lt, hI_eq, if_true, if_false, eq_self_iff_true, true_and, and_true, false_and, and_false, decide_eq_true_eq, not_true, not_false_iff, Bool.false_eq_true, Bool.true_eq_false, mrd, mwr, mW_of, mW_0, mW_1, mW_2, mW_3, mW_4, m_0, m_1, m_2, m_3, m_4, hm_mW, hu_same, hu_ne, hw_id, hm_L, m_of, m_its, m_trav, fM_spt, fM_lbl, hI_div, eT]
theorem hR_hem3 (b0 : σ 0 ≤ 12) (b1 : σ 1 ≤ 10) (b2 : σ 2 ≤ 8) {t : Int} (k1 : 0 ≤ b) (k2 : b < 9) (h : hR G σ) : hR (wgA (wgF G 0 3 (hI t)) 5 (upd (gA (wgF G 0 3 (hI t)) 5) b.toNat (hI v))) (hu (hu σ 3 t) (5 + b) v) := by
  refine hR_hem ?_ ?_ ?_ k1 k2 (hR_thread b0 b1 b2 h)
  all_goals
    rw [hu_ne (by omega)]
    assumption
theorem t_moveHem (hr : hR G (hm M)) (h : hV B (hm M)) (b1 : 0 ≤ b) (b2 : b < 9) (m1 : 1 ≤ m) (m2 : m < 360) (mne : m ≠ hm M (5 + b)) : hOutC B M (fG_shiftHem G (hI b) (hI m)) (fM_movesHem M (hI b) (hI m)) := by
  have h0 := h.1.1
  have h1 := h.1.2.1
  have h2 := h.1.2.2.1
  have hq := h.2.1 b b1 b2
  have hg := gp_r (x := hm M (5 + b)) (y := m) (by omega) (by omega) (by omega) m2
  -- the loops, from any low, high and change
  have loop : ∀ lo hi c : Int, 0 ≤ lo → lo < 360 → 0 ≤ hi → hi < 360 → (c = if hm M (5 + b) < m then 1 else -1) →
      hOutC B M (iter (fun s => fG_shiftHem_b46 (hI b) (hI m) (hI lo) (hI hi) (hI c) s.1 s.2.1 s.2.2) fu (G, 0, 0)) (iter (fun s => fM_movesHem_b62 (hI b) (hI m) (hI (hm M (5 + b))) (hI lo) (hI hi) s.1 s.2.1 s.2.2) fu (mW (mW M 3 (hm M 3 - pr (hm M) b m)) (5 + b) m, 0, 0)) := by
    intro lo hi c lo1 lo2 hi1 hi2 hc
    have key : ∃ r1 r2, iter (fun s => fG_shiftHem_b46 (hI b) (hI m) (hI lo) (hI hi) (hI c) s.1 s.2.1 s.2.2) fu (G, 0, 0) = some r1 ∧ iter (fun s => fM_movesHem_b62 (hI b) (hI m) (hI (hm M (5 + b))) (hI lo) (hI hi) s.1 s.2.1 s.2.2) fu (mW (mW M 3 (hm M 3 - pr (hm M) b m)) (5 + b) m, 0, 0) = some r2 ∧ ∃ n G2 M2, r1 = (hI n, G2) ∧ r2 = (hI n, M2) ∧ hR G2 (hm M2) ∧ hV B (hm M2) ∧ hfr M M2 ∧ (hm M2 0 = hm M 0 ∧ hm M2 1 = hm M 1) := by
      refine it_two (hm M 1).toNat (fun i s1 s2 => ∃ n G1 M1 τ, s1 = (G1, hI n, hI i) ∧ s2 = (M1, hI n, hI i) ∧ hR G1 τ ∧ hV B τ ∧ hm M1 = hu (hu τ 3 (hm M 3 - pr (hm M) b m)) (5 + b) m ∧ hfr M M1 ∧ (∀ w, w < 38 → τ w = hm M w)) _ (by omega) ⟨0, G, _, hm M, rfl, rfl, hr, h, by rw [hm_mW (by omega) (by omega), hm_mW (by omega) (by omega)], hfr_W (hfr_W hfr_rf), fun _ _ => rfl⟩ ?_
      rintro i s1 s2 hi0 ⟨n, G1, M1, τ, rfl, rfl, hr1, hV1, hm1, hf1, hc1⟩
      have e1 : τ 1 = hm M 1 := hc1 1 (by omega)
      have e0 : τ 0 = hm M 0 := hc1 0 (by omega)
      have e2 : τ 2 = hm M 2 := hc1 2 (by omega)
      have e3 : τ 3 = hm M 3 := hc1 3 (by omega)
      have eb : τ (5 + b) = hm M (5 + b) := hc1 (5 + b) (by omega)
      have m1' : hm M1 1 = hm M 1 := by rw [hm1, hu_ne (by omega), hu_ne (by omega), e1]
      unfold fG_shiftHem_b46 fM_movesHem_b62
      dsimp only
      by_cases ci : (i : Int) < hm M 1
      · have k1 : (0 : Int) ≤ i := by omega
        have k2 : (i : Int) < τ 1 := by omega
        have hs := hV1.2.2.2.1 i k1 k2
        unfold hVs at hs
        have f2 : hm M1 (38 + 9 * (i : Int) + 2) = τ (38 + 9 * (i : Int) + 2) := by rw [hm1, hu_ne (by omega), hu_ne (by omega)]
        have f3 : hm M1 (38 + 9 * (i : Int) + 3) = τ (38 + 9 * (i : Int) + 3) := by rw [hm1, hu_ne (by omega), hu_ne (by omega)]
        have f4 : hm M1 (38 + 9 * (i : Int) + 4) = τ (38 + 9 * (i : Int) + 4) := by rw [hm1, hu_ne (by omega), hu_ne (by omega)]
        have f5 : hm M1 (38 + 9 * (i : Int) + 5) = τ (38 + 9 * (i : Int) + 5) := by rw [hm1, hu_ne (by omega), hu_ne (by omega)]
        have skip : ∀ {X Y : Prop}, X → Y → X ∧ Y := fun a b => ⟨a, b⟩
        by_cases ct : τ (38 + 9 * (i : Int) + 2) = 1
        · by_cases cb : τ (38 + 9 * (i : Int) + 3) = b
          · by_cases cl : lo ≤ τ (38 + 9 * (i : Int) + 4) ∧ τ (38 + 9 * (i : Int) + 4) ≤ hi - 1
            · have cl1 : ¬ τ (38 + 9 * (i : Int) + 4) < lo := by omega
              have cl2 : τ (38 + 9 * (i : Int) + 4) < hi := by omega
              have eD : fM_movesHem_j141 M1 (hI b) (hI m) (hI (hm M (5 + b))) (hI lo) (hI hi) (hI n) (hI i) (hI c) (hI (τ (38 + 9 * (i : Int) + 5))) (hI (38 + 9 * (i : Int) + 5)) = some (.inl (mW M1 (38 + 9 * (i : Int) + 5) (τ (38 + 9 * (i : Int) + 5) + c), hI (n + 1), hI ((i : Int) + 1))) := by
                unfold fM_movesHem_j141
                simp (disch := omega) only [↓reduceIte, Int.reduceEq, Int.reduceLT, bnd_s, bnd2_s, bnd3_s, hI_lit, hL_lit, hI_add, hI_sub, hI_mul, hI_neg, hI_lt, hI_eq, if_true, if_false, eq_self_iff_true, true_and, and_true, false_and, and_false, decide_eq_true_eq, not_true, not_false_iff, Bool.false_eq_true, Bool.true_eq_false, mrd, mwr, mW_of, mW_0, mW_1, mW_2, mW_3, mW_4, m_0, m_1, m_2, m_3, m_4, hm_mW, hu_same, hu_ne, hw_id, hm_L, m_of, m_its, m_trav, fM_spt, fM_lbl]
              have eM : (if hI (hm M (5 + b)) < hI m then fM_movesHem_j141 M1 (hI b) (hI m) (hI (hm M (5 + b))) (hI lo) (hI hi) (hI n) (hI i) (hI 1) (hI (τ (38 + 9 * (i : Int) + 5))) (hI (38 + 9 * (i : Int) + 5)) else fM_movesHem_j141 M1 (hI b) (hI m) (hI (hm M (5 + b))) (hI lo) (hI hi) (hI n) (hI i) (hI (-1)) (hI (τ (38 + 9 * (i : Int) + 5))) (hI (38 + 9 * (i : Int) + 5))) = some (.inl (mW M1 (38 + 9 * (i : Int) + 5) (τ (38 + 9 * (i : Int) + 5) + c), hI (n + 1), hI ((i : Int) + 1))) := by
                rw [ilt (by omega) (by omega) (by omega) (by omega), ← eD]
                subst hc
                split <;> rfl
              have eM2 : (if hm M (5 + b) < m then fM_movesHem_j141 M1 (hI b) (hI m) (hI (hm M (5 + b))) (hI lo) (hI hi) (hI n) (hI i) (hI 1) (hI (τ (38 + 9 * (i : Int) + 5))) (hI (38 + 9 * (i : Int) + 5)) else fM_movesHem_j141 M1 (hI b) (hI m) (hI (hm M (5 + b))) (hI lo) (hI hi) (hI n) (hI i) (hI (-1)) (hI (τ (38 + 9 * (i : Int) + 5))) (hI (38 + 9 * (i : Int) + 5))) = some (.inl (mW M1 (38 + 9 * (i : Int) + 5) (τ (38 + 9 * (i : Int) + 5) + c), hI (n + 1), hI ((i : Int) + 1))) := by
                rw [← eM, ilt (by omega) (by omega) (by omega) (by omega)]
              simp (disch := omega) only [↓reduceIte, Int.reduceEq, Int.reduceLT, bnd_s, bnd2_s, bnd3_s, hI_lit, hL_lit, hI_add, hI_sub, hI_mul, hI_neg, hI_lt, hI_eq, if_true, if_false, eq_self_iff_true, true_and, and_true, false_and, and_false, decide_eq_true_eq, not_true, not_false_iff, Bool.false_eq_true, Bool.true_eq_false, mrd, m_0, m_1, m_of, m_trav, fM_spt, r_spots hr1, e1, m1', ci, rix_hI, r_trav hr1 k1 k2, r_s2 hr1 k1 k2, r_s3 hr1 k1 k2, r_s4 hr1 k1 k2, ct, cb, cl1, cl2, f2, f3, f4, f5, isIn_d, cl, decide_true, decide_false, eM2]
              have eM3 : hm (mW M1 (38 + 9 * (i : Int) + 5) (τ (38 + 9 * (i : Int) + 5) + c)) = hu (hu (hu τ (38 + 9 * (i : Int) + 5) (τ (38 + 9 * (i : Int) + 5) + c)) 3 (hm M 3 - pr (hm M) b m)) (5 + b) m := by
                rw [hm_mW (by omega) (by omega), hm1, hu_comm (show 5 + b ≠ 38 + 9 * (i : Int) + 5 by omega), hu_comm (show (3 : Int) ≠ 38 + 9 * (i : Int) + 5 by omega)]
              exact Or.inl ⟨by omega, _, _, rfl, rfl, n + 1, _, _, _, rfl, rfl, hR_diary (by omega) (by omega) (by omega) k1 (by omega) hr1, hV_free (Or.inr ⟨i, k1, by omega, Or.inl rfl⟩) hV1, eM3, hfr_W hf1, fun w hw => by rw [hu_ne (by omega)]; exact hc1 w hw⟩
            · have cl' : ¬ (lo ≤ τ (38 + 9 * (i : Int) + 4) ∧ τ (38 + 9 * (i : Int) + 4) ≤ hi - 1) := cl
              have fin : ∀ X Y, X = some (.inl (G1, hI n, hI ((i : Int) + 1))) → Y = some (.inl (M1, hI n, hI ((i : Int) + 1))) → (i < (hm M 1).toNat ∧ ∃ s1' s2', X = some (Sum.inl s1') ∧ Y = some (Sum.inl s2') ∧ ∃ n G1 M1 τ, s1' = (G1, hI n, hI ((i + 1 : Nat) : Int)) ∧ s2' = (M1, hI n, hI ((i + 1 : Nat) : Int)) ∧ hR G1 τ ∧ hV B τ ∧ hm M1 = hu (hu τ 3 (hm M 3 - pr (hm M) b m)) (5 + b) m ∧ hfr M M1 ∧ (∀ w, w < 38 → τ w = hm M w)) ∨ (∃ r1 r2, X = some (Sum.inr r1) ∧ Y = some (Sum.inr r2) ∧ ∃ n G2 M2, r1 = (hI n, G2) ∧ r2 = (hI n, M2) ∧ hR G2 (hm M2) ∧ hV B (hm M2) ∧ hfr M M2 ∧ (hm M2 0 = hm M 0 ∧ hm M2 1 = hm M 1)) := fun X Y hX hY => Or.inl ⟨by omega, _, _, hX, hY, n, G1, M1, τ, rfl, rfl, hr1, hV1, hm1, hf1, hc1⟩
              by_cases cl1 : τ (38 + 9 * (i : Int) + 4) < lo
              · apply fin
                · simp (disch := omega) only [↓reduceIte, Int.reduceEq, Int.reduceLT, bnd_s, bnd2_s, bnd3_s, hI_lit, hL_lit, hI_add, hI_sub, hI_mul, hI_neg, hI_lt, hI_eq, if_true, if_false, eq_self_iff_true, true_and, and_true, false_and, and_false, decide_eq_true_eq, not_true, not_false_iff, Bool.false_eq_true, Bool.true_eq_false, r_spots hr1, e1, ci, rix_hI, r_trav hr1 k1 k2, r_s2 hr1 k1 k2, r_s3 hr1 k1 k2, r_s4 hr1 k1 k2, ct, cb, cl1, decide_true, decide_false]
                · simp (disch := omega) only [↓reduceIte, Int.reduceEq, Int.reduceLT, bnd_s, bnd2_s, bnd3_s, hI_lit, hL_lit, hI_add, hI_sub, hI_mul, hI_neg, hI_lt, hI_eq, if_true, if_false, eq_self_iff_true, true_and, and_true, false_and, and_false, decide_eq_true_eq, not_true, not_false_iff, Bool.false_eq_true, Bool.true_eq_false, mrd, m_0, m_1, m_of, m_trav, fM_spt, m1', ci, ct, cb, f2, f3, f4, f5, isIn_d, cl', decide_true, decide_false]
              · have cl2 : ¬ τ (38 + 9 * (i : Int) + 4) < hi := by omega
                apply fin
                · simp (disch := omega) only [↓reduceIte, Int.reduceEq, Int.reduceLT, bnd_s, bnd2_s, bnd3_s, hI_lit, hL_lit, hI_add, hI_sub, hI_mul, hI_neg, hI_lt, hI_eq, if_true, if_false, eq_self_iff_true, true_and, and_true, false_and, and_false, decide_eq_true_eq, not_true, not_false_iff, Bool.false_eq_true, Bool.true_eq_false, r_spots hr1, e1, ci, rix_hI, r_trav hr1 k1 k2, r_s2 hr1 k1 k2, r_s3 hr1 k1 k2, r_s4 hr1 k1 k2, ct, cb, cl1, cl2, decide_true, decide_false]
                · simp (disch := omega) only [↓reduceIte, Int.reduceEq, Int.reduceLT, bnd_s, bnd2_s, bnd3_s, hI_lit, hL_lit, hI_add, hI_sub, hI_mul, hI_neg, hI_lt, hI_eq, if_true, if_false, eq_self_iff_true, true_and, and_true, false_and, and_false, decide_eq_true_eq, not_true, not_false_iff, Bool.false_eq_true, Bool.true_eq_false, mrd, m_0, m_1, m_of, m_trav, fM_spt, m1', ci, ct, cb, f2, f3, f4, f5, isIn_d, cl', decide_true, decide_false]
          · simp (disch := omega) only [↓reduceIte, Int.reduceEq, Int.reduceLT, bnd_s, bnd2_s, bnd3_s, hI_lit, hL_lit, hI_add, hI_sub, hI_mul, hI_neg, hI_lt, hI_eq, if_true, if_false, eq_self_iff_true, true_and, and_true, false_and, and_false, decide_eq_true_eq, not_true, not_false_iff, Bool.false_eq_true, Bool.true_eq_false, mrd, m_0, m_1, m_of, m_trav, fM_spt, r_spots hr1, e1, m1', ci, rix_hI, r_trav hr1 k1 k2, r_s2 hr1 k1 k2, ct, cb, f2, f3, decide_true, decide_false]
            exact Or.inl ⟨by omega, _, _, rfl, rfl, n, G1, M1, τ, rfl, rfl, hr1, hV1, hm1, hf1, hc1⟩
        · simp (disch := omega) only [↓reduceIte, Int.reduceEq, Int.reduceLT, bnd_s, bnd2_s, bnd3_s, hI_lit, hL_lit, hI_add, hI_sub, hI_mul, hI_neg, hI_lt, hI_eq, if_true, if_false, eq_self_iff_true, true_and, and_true, false_and, and_false, decide_eq_true_eq, not_true, not_false_iff, Bool.false_eq_true, Bool.true_eq_false, mrd, m_0, m_1, m_of, m_trav, fM_spt, r_spots hr1, e1, m1', ci, rix_hI, r_trav hr1 k1 k2, ct, f2, decide_true, decide_false]
          exact Or.inl ⟨by omega, _, _, rfl, rfl, n, G1, M1, τ, rfl, rfl, hr1, hV1, hm1, hf1, hc1⟩
      · have ep : pr τ b m = pr (hm M) b m := by unfold pr; rw [eb]
        simp (disch := omega) only [↓reduceIte, Int.reduceEq, Int.reduceLT, bnd_s, bnd2_s, bnd3_s, hI_lit, hL_lit, hI_add, hI_sub, hI_mul, hI_neg, hI_lt, hI_eq, if_true, if_false, eq_self_iff_true, true_and, and_true, false_and, and_false, decide_eq_true_eq, not_true, not_false_iff, Bool.false_eq_true, Bool.true_eq_false, r_spots hr1, m_1, e1, m1', ci, g_price hr1 hV1 b1 b2 (show 0 ≤ m by omega) m2, r_thread hr1, ep, e3, wr_hI]
        refine Or.inr ⟨_, _, rfl, rfl, n, _, _, rfl, rfl, ?_, ?_, hf1, ?_⟩
        · rw [hm1]; exact hR_hem3 (by omega) (by omega) (by omega) b1 b2 hr1
        · rw [hm1]; exact hV_hem b1 b2 m1 m2 (hV_free (Or.inl rfl) hV1)
        · rw [hm1]
          exact ⟨by rw [hu_ne (by omega), hu_ne (by omega), e0], by rw [hu_ne (by omega), hu_ne (by omega), e1]⟩
    obtain ⟨r1, r2, q1, q2, n, G2, M2, z1, z2, rest⟩ := key
    subst z1 z2
    exact ⟨n, G2, M2, q1, q2, rest⟩
  have eM : ∀ lo hi : Int, fM_movesHem_j31 M (hI b) (hI m) (hI (hm M (5 + b))) (hI lo) (hI hi) = iter (fun s => fM_movesHem_b62 (hI b) (hI m) (hI (hm M (5 + b))) (hI lo) (hI hi) s.1 s.2.1 s.2.2) fu (mW (mW M 3 (hm M 3 - pr (hm M) b m)) (5 + b) m, 0, 0) := by
    intro lo hi
    unfold fM_movesHem_j31
    rw [m_price h b1 b2 (by omega) m2, m_3, hI_sub, mW_3, bnd_s, show (5 : Int32) = hI 5 from rfl, hI_add, mwr (by omega) (by omega), bnd_s, bnd_s]; rfl
  by_cases c : hm M (5 + b) < m
  · have L := loop (hm M (5 + b)) m 1 (by omega) (by omega) (by omega) (by omega) (by rw [if_pos c])
    have c2 : ¬ m < hm M (5 + b) := by omega
    have e1 : fM_movesHem M (hI b) (hI m) = fM_movesHem_j31 M (hI b) (hI m) (hI (hm M (5 + b))) (hI (hm M (5 + b))) (hI m) := by
      unfold fM_movesHem fM_movesHem_j19
      simp (disch := omega) only [↓reduceIte, Int.reduceEq, Int.reduceLT, bnd_s, bnd2_s, bnd3_s, hI_lit, hL_lit, hI_add, hI_sub, hI_mul, hI_neg, hI_lt, hI_eq, if_true, if_false, eq_self_iff_true, true_and, and_true, false_and, and_false, decide_eq_true_eq, not_true, not_false_iff, Bool.false_eq_true, Bool.true_eq_false, mrd, c]
    have e2 : fG_shiftHem G (hI b) (hI m) = iter (fun s => fG_shiftHem_b46 (hI b) (hI m) (hI (hm M (5 + b))) (hI m) (hI 1) s.1 s.2.1 s.2.2) fu (G, 0, 0) := by
      unfold fG_shiftHem fG_shiftHem_j38 fJ_min_7cf53 fJ_max_7cf53
      simp (disch := omega) only [↓reduceIte, Int.reduceEq, Int.reduceLT, bnd_s, bnd2_s, bnd3_s, hI_lit, hL_lit, hI_add, hI_sub, hI_mul, hI_neg, hI_lt, hI_eq, if_true, if_false, eq_self_iff_true, true_and, and_true, false_and, and_false, decide_eq_true_eq, not_true, not_false_iff, Bool.false_eq_true, Bool.true_eq_false, r_hem hr, c, c2]
    rw [e1, e2, eM]
    exact L
  · have L := loop m (hm M (5 + b)) (-1) (by omega) (by omega) (by omega) (by omega) (by rw [if_neg c])
    have c2 : m < hm M (5 + b) := by omega
    have e1 : fM_movesHem M (hI b) (hI m) = fM_movesHem_j31 M (hI b) (hI m) (hI (hm M (5 + b))) (hI m) (hI (hm M (5 + b))) := by
      unfold fM_movesHem fM_movesHem_j19
      simp (disch := omega) only [↓reduceIte, Int.reduceEq, Int.reduceLT, bnd_s, bnd2_s, bnd3_s, hI_lit, hL_lit, hI_add, hI_sub, hI_mul, hI_neg, hI_lt, hI_eq, if_true, if_false, eq_self_iff_true, true_and, and_true, false_and, and_false, decide_eq_true_eq, not_true, not_false_iff, Bool.false_eq_true, Bool.true_eq_false, mrd, c]
    have e2 : fG_shiftHem G (hI b) (hI m) = iter (fun s => fG_shiftHem_b46 (hI b) (hI m) (hI m) (hI (hm M (5 + b))) (hI (-1)) s.1 s.2.1 s.2.2) fu (G, 0, 0) := by
      unfold fG_shiftHem fG_shiftHem_j38 fJ_min_7cf53 fJ_max_7cf53
      simp (disch := omega) only [↓reduceIte, Int.reduceEq, Int.reduceLT, bnd_s, bnd2_s, bnd3_s, hI_lit, hL_lit, hI_add, hI_sub, hI_mul, hI_neg, hI_lt, hI_eq, if_true, if_false, eq_self_iff_true, true_and, and_true, false_and, and_false, decide_eq_true_eq, not_true, not_false_iff, Bool.false_eq_true, Bool.true_eq_false, r_hem hr, c, c2]
    rw [e1, e2, eM]
    exact L
end HHI

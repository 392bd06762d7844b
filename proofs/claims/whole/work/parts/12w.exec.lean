/-! ONE ROW OF THE PLAN, DONE: STEPS AND WALKS -/
section HIW
variable {B : Int} {C : zC} {M M1 M2 : zM} {G G1 : zG} {j k a b c κ : Int} {b' : Int32}
theorem x_step (hr : hR G (hm M)) (hv : hV B (hm M)) (hB : B < 900000000) (a1 : 0 ≤ a) (a2 : a ≤ 9999) (b1 : 0 ≤ b) (b2 : b ≤ 9999) (r2 : rd 40 (sA C 2) (hI j) = some (hI 3)) (r3 : rd 40 (sA C 3) (hI j) = some (hI a)) (r4 : rd 40 (sA C 4) (hI j) = some (hI b)) (r5 : rd 40 (sA C 5) (hI j) = some (hI c)) (m4 : rd 60 (mA M 254) (hI k) = some (hI 2)) (m5 : rd 60 (mA M 255) (hI k) = some (hI a)) (m6 : rd 60 (mA M 256) (hI k) = some (hI b)) : EX B C G M j k := by
  have n1 : (hI 3 = hI 1) = False := eq_false (by decide)
  have n2 : (hI 3 = hI 2) = False := eq_false (by decide)
  have k0 : (hI 2 = hI 0) = False := eq_false (by decide)
  have k1 : (hI 2 = hI 1) = False := eq_false (by decide)
  have z1 : (hI 1 = hI 0) = False := eq_false (by decide)
  have z2 : (hI 2 = hI 0) = False := eq_false (by decide)
  have z3 : (hI 3 = hI 0) = False := eq_false (by decide)
  have h1 := hv.1.2.1
  have y0 := hasSpot_d (x := a) hr hv (by omega) (by omega)
  have y1 := Xdir_d (x := b) (by omega) (by omega)
  have y2 := Mspot_d (x := a) hv (by omega) (by omega)
  have y3 := isIn_e (a := b) (b := 0) (c := 1) (by omega) (by omega) (by omega) (by omega) (by omega) (by omega)
  by_cases d : 0 ≤ a ∧ a < hm M 1
  · rw [decide_eq_true d] at y0 y2
    have rx : rix 10 (hI a) = some a.toNat := rix_hI (by omega) (by omega) (by omega)
    by_cases db : b = 0 ∨ b = 1
    · rw [decide_eq_true db] at y1
      rw [decide_eq_true (show 0 ≤ b ∧ b ≤ 1 by omega)] at y3
      obtain ⟨x, x1, x2, w1, w2, w3⟩ := t_stepWhy (k := a) (d := b) hr hv a1 d.2 db
      by_cases cx : x = 0
      · subst cx
        obtain ⟨G2, M2, u1, u2, u3, u4, u5, u6, -⟩ := t_step (k := a) (d := b) hr hv (by omega) a1 d.2 db
        refine Or.inl ⟨G2, wmF M2 29 (hI (sTo (hm M) a b)), ?_, ?_, u3, hV_le (by omega) u4, hfr_L u5, ?_⟩
        · unfold fS_execute fS_refusalOf fG_stepRefusal
          simp only [hI_lit, hL_lit, hI_neg, hI_add, hI_sub, bnd_s, bnd2_s, bnd3_s, ↓reduceIte, eq_self, if_true, if_false, Bool.false_eq_true, Bool.true_eq_false, r2, r3, r4, r5, n1, n2, y0, y1, rx, w1, u1]
        · unfold fM_isDone fM_may fM_does
          simp only [hI_lit, hL_lit, hI_neg, hI_add, hI_sub, bnd_s, bnd2_s, bnd3_s, ↓reduceIte, eq_self, if_true, if_false, Bool.false_eq_true, Bool.true_eq_false, m4, m5, m6, k0, k1, y2, y3, w2, u2]
        · exact u6 0 (by omega) (by omega) (by omega)
      · have nx := zvF (v := x) (by omega) (by omega)
        refine Or.inr ⟨?_, ?_⟩
        · unfold fS_execute fS_refusalOf fG_stepRefusal
          simp only [hI_lit, hL_lit, hI_neg, hI_add, hI_sub, bnd_s, bnd2_s, bnd3_s, ↓reduceIte, eq_self, if_true, if_false, Bool.false_eq_true, Bool.true_eq_false, r2, r3, r4, r5, n1, n2, y0, y1, rx, w1, nx, z3]
        · unfold fM_isDone fM_may
          simp only [hI_lit, hL_lit, hI_neg, hI_add, hI_sub, bnd_s, bnd2_s, bnd3_s, ↓reduceIte, eq_self, if_true, if_false, Bool.false_eq_true, Bool.true_eq_false, m4, m5, m6, k0, k1, y2, y3, w2, nx]
    · rw [decide_eq_false db] at y1
      rw [decide_eq_false (show ¬ (0 ≤ b ∧ b ≤ 1) by omega)] at y3
      refine Or.inr ⟨?_, ?_⟩
      · unfold fS_execute fS_refusalOf fG_stepRefusal
        simp only [hI_lit, hL_lit, hI_neg, hI_add, hI_sub, bnd_s, bnd2_s, bnd3_s, ↓reduceIte, eq_self, if_true, if_false, Bool.false_eq_true, Bool.true_eq_false, r2, r3, r4, r5, n1, n2, y0, y1, z2]
      · unfold fM_isDone fM_may
        simp only [hI_lit, hL_lit, hI_neg, hI_add, hI_sub, bnd_s, bnd2_s, bnd3_s, ↓reduceIte, eq_self, if_true, if_false, Bool.false_eq_true, Bool.true_eq_false, m4, m5, m6, k0, k1, y2, y3]
  · rw [decide_eq_false d] at y0 y2
    refine Or.inr ⟨?_, ?_⟩
    · unfold fS_execute fS_refusalOf fG_stepRefusal
      simp only [hI_lit, hL_lit, hI_neg, hI_add, hI_sub, bnd_s, bnd2_s, bnd3_s, ↓reduceIte, eq_self, if_true, if_false, Bool.false_eq_true, Bool.true_eq_false, r2, r3, r4, r5, n1, n2, y0, z1]
    · unfold fM_isDone fM_may
      simp only [hI_lit, hL_lit, hI_neg, hI_add, hI_sub, bnd_s, bnd2_s, bnd3_s, ↓reduceIte, eq_self, if_true, if_false, Bool.false_eq_true, Bool.true_eq_false, m4, m5, m6, k0, k1, y2]
theorem x_walk (hr : hR G (hm M)) (hv : hV B (hm M)) (a1 : 0 ≤ a) (a2 : a ≤ 9999) (b1 : 0 ≤ b) (b2 : b ≤ 9999) (c1 : 0 ≤ c) (c2 : c ≤ 9999) (r2 : rd 40 (sA C 2) (hI j) = some (hI 4)) (r3 : rd 40 (sA C 3) (hI j) = some (hI a)) (r4 : rd 40 (sA C 4) (hI j) = some (hI b)) (r5 : rd 40 (sA C 5) (hI j) = some (hI c)) (m4 : rd 60 (mA M 254) (hI k) = some (hI 3)) (m5 : rd 60 (mA M 255) (hI k) = some (hI a)) (m6 : rd 60 (mA M 256) (hI k) = some (hI b)) (m7 : rd 60 (mA M 257) (hI k) = some (hI c)) : EX B C G M j k := by
  have n1 : (hI 4 = hI 1) = False := eq_false (by decide)
  have n2 : (hI 4 = hI 2) = False := eq_false (by decide)
  have n3 : (hI 4 = hI 3) = False := eq_false (by decide)
  have k0 : (hI 3 = hI 0) = False := eq_false (by decide)
  have k1 : (hI 3 = hI 1) = False := eq_false (by decide)
  have k2 : (hI 3 = hI 2) = False := eq_false (by decide)
  have z1 : (hI 1 = hI 0) = False := eq_false (by decide)
  have z2 : (hI 2 = hI 0) = False := eq_false (by decide)
  have h1 := hv.1.2.1
  obtain ⟨w1, w2⟩ := t_mayWalk (x := a) (y := b) (z := c) hr hv (by omega) (by omega) (by omega) (by omega) (by omega) (by omega)
  have w3 := walk_d (y := b) (z := c) (by omega) (by omega) (by omega) (by omega)
  by_cases d : 0 ≤ a ∧ a < hm M 1
  · have rx : rix 10 (hI a) = some a.toNat := rix_hI (by omega) (by omega) (by omega)
    rw [if_neg (fun z => z d)] at w1
    by_cases ct : hm M (38 + 9 * a + 2) = 1
    · rw [decide_eq_true (show (0 ≤ a ∧ a < hm M 1) ∧ hm M (38 + 9 * a + 2) = 1 from ⟨d, ct⟩)] at w2
      by_cases db : (b = 0 ∨ b = 1) ∧ (0 ≤ c ∧ c < 360)
      · rw [decide_eq_true db] at w3
        rw [if_neg (fun z => z db), if_pos ct] at w1
        obtain ⟨m', G2, M2, u1, u2, u3, u4, u5, u6⟩ := t_tell (k := a) (y := b) (z := c) hr hv a1 d.2 ct db.1 db.2.1 db.2.2
        refine Or.inl ⟨G2, wmF M2 29 (hI m'), ?_, ?_, u3, hV_le (by omega) u4, hfr_L u5, u6.1⟩
        · unfold fS_execute fS_refusalOf
          simp only [hI_lit, hL_lit, hI_neg, hI_add, hI_sub, bnd_s, bnd2_s, bnd3_s, ↓reduceIte, eq_self, if_true, if_false, Bool.false_eq_true, Bool.true_eq_false, r2, r3, r4, r5, n1, n2, n3, w1, rx, u1]
        · unfold fM_isDone fM_may fM_does
          simp only [hI_lit, hL_lit, hI_neg, hI_add, hI_sub, bnd_s, bnd2_s, bnd3_s, ↓reduceIte, eq_self, if_true, if_false, Bool.false_eq_true, Bool.true_eq_false, m4, m5, m6, m7, k0, k1, k2, w2, w3, u2]
      · rw [decide_eq_false db] at w3
        rw [if_pos db] at w1
        refine Or.inr ⟨?_, ?_⟩
        · unfold fS_execute fS_refusalOf
          simp only [hI_lit, hL_lit, hI_neg, hI_add, hI_sub, bnd_s, bnd2_s, bnd3_s, ↓reduceIte, eq_self, if_true, if_false, Bool.false_eq_true, Bool.true_eq_false, r2, r3, r4, r5, n1, n2, n3, w1, z2]
        · unfold fM_isDone fM_may
          simp only [hI_lit, hL_lit, hI_neg, hI_add, hI_sub, bnd_s, bnd2_s, bnd3_s, ↓reduceIte, eq_self, if_true, if_false, Bool.false_eq_true, Bool.true_eq_false, m4, m5, m6, m7, k0, k1, k2, w2, w3]
    · rw [decide_eq_false (fun z => ct z.2)] at w2
      rw [if_neg ct] at w1
      have nr : ∃ r : Int, fG_walkRefusal G (hI a) (hI b) (hI c) = some (hI r) ∧ (hI r = hI 0) = False := by
        by_cases db : (b = 0 ∨ b = 1) ∧ (0 ≤ c ∧ c < 360)
        · rw [if_neg (fun z => z db)] at w1
          exact ⟨3, w1, eq_false (by decide)⟩
        · rw [if_pos db] at w1
          exact ⟨2, w1, z2⟩
      obtain ⟨r, nr1, nr2⟩ := nr
      refine Or.inr ⟨?_, ?_⟩
      · unfold fS_execute fS_refusalOf
        simp only [hI_lit, hL_lit, hI_neg, hI_add, hI_sub, bnd_s, bnd2_s, bnd3_s, ↓reduceIte, eq_self, if_true, if_false, Bool.false_eq_true, Bool.true_eq_false, r2, r3, r4, r5, n1, n2, n3, nr1, nr2]
      · unfold fM_isDone fM_may
        simp only [hI_lit, hL_lit, hI_neg, hI_add, hI_sub, bnd_s, bnd2_s, bnd3_s, ↓reduceIte, eq_self, if_true, if_false, Bool.false_eq_true, Bool.true_eq_false, m4, m5, m6, k0, k1, k2, w2]
  · rw [decide_eq_false (fun z => d z.1)] at w2
    rw [if_pos d] at w1
    refine Or.inr ⟨?_, ?_⟩
    · unfold fS_execute fS_refusalOf
      simp only [hI_lit, hL_lit, hI_neg, hI_add, hI_sub, bnd_s, bnd2_s, bnd3_s, ↓reduceIte, eq_self, if_true, if_false, Bool.false_eq_true, Bool.true_eq_false, r2, r3, r4, r5, n1, n2, n3, w1, z1]
    · unfold fM_isDone fM_may
      simp only [hI_lit, hL_lit, hI_neg, hI_add, hI_sub, bnd_s, bnd2_s, bnd3_s, ↓reduceIte, eq_self, if_true, if_false, Bool.false_eq_true, Bool.true_eq_false, m4, m5, m6, k0, k1, k2, w2]
end HIW

/-! ONE ROW OF THE PLAN, DONE: SEWING -/
section HIV
variable {B : Int} {C : zC} {M M1 M2 : zM} {G G1 : zG} {B j k a b c κ : Int} {b' : Int32}
theorem x_sew (hr : hR G (hm M)) (hv : hV B (hm M)) (a1 : 0 ≤ a) (a2 : a ≤ 9999) (b1 : 0 ≤ b) (b2 : b ≤ 9999) (r2 : rd 40 (sA C 2) (hI j) = some (hI 2)) (r3 : rd 40 (sA C 3) (hI j) = some (hI a)) (r4 : rd 40 (sA C 4) (hI j) = some (hI b)) (r5 : rd 40 (sA C 5) (hI j) = some (hI c)) (m4 : rd 60 (mA M 254) (hI k) = some (hI 1)) (m5 : rd 60 (mA M 255) (hI k) = some (hI a)) (m6 : rd 60 (mA M 256) (hI k) = some (hI b)) : EX B C G M j k := by
  have n1 : (hI 2 = hI 1) = False := eq_false (by decide)
  have k0 : (hI 1 = hI 0) = False := eq_false (by decide)
  have z1 : (hI 1 = hI 0) = False := eq_false (by decide)
  have z2 : (hI 2 = hI 0) = False := eq_false (by decide)
  have z3 : (hI 3 = hI 0) = False := eq_false (by decide)
  have h0 := hv.1.1
  have y0 := hasGore_d (x := a) hr hv (by omega) (by omega)
  have y3 := Mgore_d (x := a) hv (by omega) (by omega)
  have eS0 : fM_areStitches (hI b) = decide (1 ≤ b ∧ b ≤ 99) := by
    unfold fM_areStitches
    rw [show (1 : Int64) = hL 1 from rfl, show (99 : Int64) = hL 99 from rfl, isIn_e (by omega) (by omega) (by omega) (by omega) (by omega) (by omega)]
  by_cases d : 0 ≤ a ∧ a < hm M 0
  · rw [decide_eq_true d] at y0 y3
    by_cases db : 1 ≤ b ∧ b ≤ 99
    · rw [decide_eq_true db] at eS0
      have c1 : (hI b < hI 1) = False := by rw [hI_lt (by omega) (by omega) (by omega) (by omega)]; exact eq_false (by omega)
      have c2 : (hI 99 < hI b) = False := by rw [hI_lt (by omega) (by omega) (by omega) (by omega)]; exact eq_false (by omega)
      obtain ⟨y1, y2⟩ := t_maySew (x := a) (v := b) hr hv a1 d.2 db.1 db.2
      by_cases cx : 99 < hm M (26 + a) + b ∨ hm M 3 < b
      · rw [decide_eq_false (fun z => z cx)] at y1 y2
        refine Or.inr ⟨?_, ?_⟩
        · unfold fS_execute fS_refusalOf fG_sewRefusal
          simp only [hI_lit, hL_lit, hI_neg, hI_add, hI_sub, bnd_s, bnd2_s, bnd3_s, ↓reduceIte, eq_self, if_true, if_false, Bool.false_eq_true, Bool.true_eq_false, r2, r3, r4, r5, n1, y0, c1, c2, y1, z3]
        · unfold fM_isDone fM_may
          simp only [hI_lit, hL_lit, hI_neg, hI_add, hI_sub, bnd_s, bnd2_s, bnd3_s, ↓reduceIte, eq_self, if_true, if_false, Bool.false_eq_true, Bool.true_eq_false, m4, m5, m6, k0, eS0, y2]
      · rw [decide_eq_true cx] at y1 y2
        obtain ⟨m', G2, M2, w1, w2, w3, w4, w5, w6⟩ := t_sew (k := a) (v := b) hr hv a1 d.2 db.1 (by omega)
        refine Or.inl ⟨G2, wmF M2 29 (hI m'), ?_, ?_, w3, hV_le (by omega) w4, hfr_L w5, w6.1⟩
        · unfold fS_execute fS_refusalOf fG_sewRefusal
          simp only [hI_lit, hL_lit, hI_neg, hI_add, hI_sub, bnd_s, bnd2_s, bnd3_s, ↓reduceIte, eq_self, if_true, if_false, Bool.false_eq_true, Bool.true_eq_false, r2, r3, r4, r5, n1, y0, c1, c2, y1, w1]
        · unfold fM_isDone fM_may fM_does
          simp only [hI_lit, hL_lit, hI_neg, hI_add, hI_sub, bnd_s, bnd2_s, bnd3_s, ↓reduceIte, eq_self, if_true, if_false, Bool.false_eq_true, Bool.true_eq_false, m4, m5, m6, k0, eS0, y2, w2]
    · rw [decide_eq_false db] at eS0
      refine Or.inr ⟨?_, ?_⟩
      · unfold fS_execute fS_refusalOf fG_sewRefusal
        by_cases e1 : b < 1
        · have c1 : (hI b < hI 1) = True := by rw [hI_lt (by omega) (by omega) (by omega) (by omega)]; exact eq_true (by omega)
          simp only [hI_lit, hL_lit, hI_neg, hI_add, hI_sub, bnd_s, bnd2_s, bnd3_s, ↓reduceIte, eq_self, if_true, if_false, Bool.false_eq_true, Bool.true_eq_false, r2, r3, r4, r5, n1, y0, c1, z2]
        · have c1 : (hI b < hI 1) = False := by rw [hI_lt (by omega) (by omega) (by omega) (by omega)]; exact eq_false (by omega)
          have c2 : (hI 99 < hI b) = True := by rw [hI_lt (by omega) (by omega) (by omega) (by omega)]; exact eq_true (by omega)
          simp only [hI_lit, hL_lit, hI_neg, hI_add, hI_sub, bnd_s, bnd2_s, bnd3_s, ↓reduceIte, eq_self, if_true, if_false, Bool.false_eq_true, Bool.true_eq_false, r2, r3, r4, r5, n1, y0, c1, c2, z2]
      · unfold fM_isDone fM_may
        simp only [hI_lit, hL_lit, hI_neg, hI_add, hI_sub, bnd_s, bnd2_s, bnd3_s, ↓reduceIte, eq_self, if_true, if_false, Bool.false_eq_true, Bool.true_eq_false, m4, m5, m6, k0, eS0]
  · rw [decide_eq_false d] at y0 y3
    refine Or.inr ⟨?_, ?_⟩
    · unfold fS_execute fS_refusalOf fG_sewRefusal
      simp only [hI_lit, hL_lit, hI_neg, hI_add, hI_sub, bnd_s, bnd2_s, bnd3_s, ↓reduceIte, eq_self, if_true, if_false, Bool.false_eq_true, Bool.true_eq_false, r2, r3, r4, r5, n1, y0, z1]
    · unfold fM_isDone fM_may fM_maySew
      by_cases db : 1 ≤ b ∧ b ≤ 99
      · rw [decide_eq_true db] at eS0
        simp only [hI_lit, hL_lit, hI_neg, hI_add, hI_sub, bnd_s, bnd2_s, bnd3_s, ↓reduceIte, eq_self, if_true, if_false, Bool.false_eq_true, Bool.true_eq_false, m4, m5, m6, k0, eS0, y3]
      · rw [decide_eq_false db] at eS0
        simp only [hI_lit, hL_lit, hI_neg, hI_add, hI_sub, bnd_s, bnd2_s, bnd3_s, ↓reduceIte, eq_self, if_true, if_false, Bool.false_eq_true, Bool.true_eq_false, m4, m5, m6, k0, eS0]
theorem x_hem (hr : hR G (hm M)) (hv : hV B (hm M)) (a1 : 0 ≤ a) (a2 : a ≤ 9999) (b1 : 0 ≤ b) (b2 : b ≤ 9999) (r2 : rd 40 (sA C 2) (hI j) = some (hI 1)) (r3 : rd 40 (sA C 3) (hI j) = some (hI a)) (r4 : rd 40 (sA C 4) (hI j) = some (hI b)) (r5 : rd 40 (sA C 5) (hI j) = some (hI c)) (m4 : rd 60 (mA M 254) (hI k) = some (hI 0)) (m5 : rd 60 (mA M 255) (hI k) = some (hI a)) (m6 : rd 60 (mA M 256) (hI k) = some (hI b)) : EX B C G M j k := by
  have z2 : (hI 2 = hI 0) = False := eq_false (by decide)
  have z3 : (hI 3 = hI 0) = False := eq_false (by decide)
  have y0 := Xband_d (x := a) (by omega) (by omega)
  have y1 := Xmer_d (x := b) (by omega) (by omega)
  have y2 := isBand_d (b := a) (by omega) (by omega)
  have y3 := Mmer_d (x := b) (by omega) (by omega)
  by_cases d : 0 ≤ a ∧ a < 9
  · rw [decide_eq_true d] at y0
    rw [decide_eq_true (show 0 ≤ a ∧ a ≤ 8 by omega)] at y2
    by_cases db : 0 ≤ b ∧ b < 360
    · rw [decide_eq_true db] at y1 y3
      obtain ⟨x, x1, x2, w1, w2, w3⟩ := t_hemWhy (b := a) (m := b) hr hv a1 d.2 b1 db.2
      by_cases cx : x = 0
      · subst cx
        obtain ⟨v1, v2⟩ := w3 rfl
        obtain ⟨m', G2, M2, u1, u2, u3, u4, u5, u6⟩ := t_moveHem (b := a) (m := b) hr hv a1 d.2 v1 db.2 v2
        refine Or.inl ⟨G2, wmF M2 29 (hI m'), ?_, ?_, u3, hV_le (by omega) u4, hfr_L u5, u6.1⟩
        · unfold fS_execute fS_refusalOf fG_hemRefusal
          simp only [hI_lit, hL_lit, hI_neg, hI_add, hI_sub, bnd_s, bnd2_s, bnd3_s, ↓reduceIte, eq_self, if_true, if_false, Bool.false_eq_true, Bool.true_eq_false, r2, r3, r4, r5, y0, y1, w1, u1]
        · unfold fM_isDone fM_may fM_does fM_isSpotAt
          simp only [hI_lit, hL_lit, hI_neg, hI_add, hI_sub, bnd_s, bnd2_s, bnd3_s, ↓reduceIte, eq_self, if_true, if_false, Bool.false_eq_true, Bool.true_eq_false, m4, m5, m6, y2, y3, w2, u2]
      · have nx := zvF (v := x) (by omega) (by omega)
        refine Or.inr ⟨?_, ?_⟩
        · unfold fS_execute fS_refusalOf fG_hemRefusal
          simp only [hI_lit, hL_lit, hI_neg, hI_add, hI_sub, bnd_s, bnd2_s, bnd3_s, ↓reduceIte, eq_self, if_true, if_false, Bool.false_eq_true, Bool.true_eq_false, r2, r3, r4, r5, y0, y1, w1, nx, z3]
        · unfold fM_isDone fM_may fM_isSpotAt
          simp only [hI_lit, hL_lit, hI_neg, hI_add, hI_sub, bnd_s, bnd2_s, bnd3_s, ↓reduceIte, eq_self, if_true, if_false, Bool.false_eq_true, Bool.true_eq_false, m4, m5, m6, y2, y3, w2, nx]
    · rw [decide_eq_false db] at y1 y3
      refine Or.inr ⟨?_, ?_⟩
      · unfold fS_execute fS_refusalOf fG_hemRefusal
        simp only [hI_lit, hL_lit, hI_neg, hI_add, hI_sub, bnd_s, bnd2_s, bnd3_s, ↓reduceIte, eq_self, if_true, if_false, Bool.false_eq_true, Bool.true_eq_false, r2, r3, r4, r5, y0, y1, z2]
      · unfold fM_isDone fM_may fM_isSpotAt
        simp only [hI_lit, hL_lit, hI_neg, hI_add, hI_sub, bnd_s, bnd2_s, bnd3_s, ↓reduceIte, eq_self, if_true, if_false, Bool.false_eq_true, Bool.true_eq_false, m4, m5, m6, y2, y3]
  · rw [decide_eq_false d] at y0
    rw [decide_eq_false (show ¬ (0 ≤ a ∧ a ≤ 8) by omega)] at y2
    refine Or.inr ⟨?_, ?_⟩
    · unfold fS_execute fS_refusalOf fG_hemRefusal
      simp only [hI_lit, hL_lit, hI_neg, hI_add, hI_sub, bnd_s, bnd2_s, bnd3_s, ↓reduceIte, eq_self, if_true, if_false, Bool.false_eq_true, Bool.true_eq_false, r2, r3, r4, r5, y0, z2]
    · unfold fM_isDone fM_may fM_isSpotAt
      simp only [hI_lit, hL_lit, hI_neg, hI_add, hI_sub, bnd_s, bnd2_s, bnd3_s, ↓reduceIte, eq_self, if_true, if_false, Bool.false_eq_true, Bool.true_eq_false, m4, m5, m6, y2]
end HIV

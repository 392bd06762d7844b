/-! ONE ROW OF THE PLAN, DONE -/
section HIU
variable {C : zC} {M M1 M2 : zM} {G G1 : zG} {B j k a b c κ : Int} {b' : Int32}
def EX (B : Int) (C : zC) (G : zG) (M : zM) (j k : Int) : Prop :=
  (∃ G1 M1, fS_execute C G (hI j) = some (true, G1) ∧ fM_isDone M (hI k) = some (true, M1) ∧ hR G1 (hm M1) ∧ hV (B + 240) (hm M1) ∧ hfr M M1 ∧ hm M1 0 = hm M 0) ∨
  (fS_execute C G (hI j) = some (false, G) ∧ fM_isDone M (hI k) = some (false, M))
theorem x_pass (hr : hR G (hm M)) (hv : hV B (hm M)) (hB : B < 990000000) (a1 : 0 ≤ a) (a2 : a ≤ 9999) (r2 : rd 40 (sA C 2) (hI j) = some (hI 6)) (r3 : rd 40 (sA C 3) (hI j) = some (hI a)) (r4 : rd 40 (sA C 4) (hI j) = some (hI b)) (r5 : rd 40 (sA C 5) (hI j) = some (hI c)) (m4 : rd 60 (mA M 254) (hI k) = some (hI 5)) (m5 : rd 60 (mA M 255) (hI k) = some (hI a)) (m6 : rd 60 (mA M 256) (hI k) = some b') : EX B C G M j k := by
  have n1 : (hI 6 = hI 1) = False := eq_false (by decide)
  have n2 : (hI 6 = hI 2) = False := eq_false (by decide)
  have n3 : (hI 6 = hI 3) = False := eq_false (by decide)
  have n4 : (hI 6 = hI 4) = False := eq_false (by decide)
  have n5 : (hI 6 = hI 5) = False := eq_false (by decide)
  have k0 : (hI 5 = hI 0) = False := eq_false (by decide)
  have k1 : (hI 5 = hI 1) = False := eq_false (by decide)
  have k2 : (hI 5 = hI 2) = False := eq_false (by decide)
  have k3 : (hI 5 = hI 3) = False := eq_false (by decide)
  have k4 : (hI 5 = hI 4) = False := eq_false (by decide)
  have ah : fM_areHours (hI a) = decide (1 ≤ a ∧ a ≤ 240) := by
    unfold fM_areHours
    rw [show (1 : Int64) = hL 1 from rfl, show (240 : Int64) = hL 240 from rfl, isIn_e (by omega) (by omega) (by omega) (by omega) (by omega) (by omega)]
  by_cases d : 1 ≤ a ∧ a ≤ 240
  · have pr0 : fG_passRefusal (hI a) = hI 0 := by
      unfold fG_passRefusal
      rw [show (1 : Int32) = hI 1 from rfl, show (240 : Int32) = hI 240 from rfl, ilt (by omega) (by omega) (by omega) (by omega), ilt (by omega) (by omega) (by omega) (by omega), if_neg (by omega), if_neg (by omega)]
      rfl
    rw [decide_eq_true d] at ah
    obtain ⟨m', G2, M2, z1, z2, z3, z4, z5, z6⟩ := t_pass (n := a) hr hv (by omega) (by omega) (by omega)
    refine Or.inl ⟨G2, wmF M2 29 (hI m'), ?_, ?_, z3, hV_le (by omega) z4, hfr_L z5, z6 0 (by omega) (by omega) (by omega) (by omega)⟩
    · unfold fS_execute fS_refusalOf
      simp only [hI_lit, hL_lit, hI_neg, hI_add, hI_sub, bnd_s, bnd2_s, bnd3_s, ↓reduceIte, eq_self, if_true, if_false, Bool.false_eq_true, Bool.true_eq_false, r2, r3, r4, r5, n1, n2, n3, n4, n5, pr0, z1]
    · unfold fM_isDone fM_may fM_does
      simp only [hI_lit, hL_lit, hI_neg, hI_add, hI_sub, bnd_s, bnd2_s, bnd3_s, ↓reduceIte, eq_self, if_true, if_false, Bool.false_eq_true, Bool.true_eq_false, m4, m5, m6, k0, k1, k2, k3, k4, ah, z2]
  · have pr0 : fG_passRefusal (hI a) = hI 2 := by
      unfold fG_passRefusal
      rw [show (1 : Int32) = hI 1 from rfl, show (240 : Int32) = hI 240 from rfl, ilt (by omega) (by omega) (by omega) (by omega), ilt (by omega) (by omega) (by omega) (by omega)]
      by_cases d1 : a < 1
      · rw [if_pos d1]; rfl
      · rw [if_neg d1, if_pos (by omega)]; rfl
    rw [decide_eq_false d] at ah
    have z0 : (hI 2 = hI 0) = False := eq_false (by decide)
    refine Or.inr ⟨?_, ?_⟩
    · unfold fS_execute fS_refusalOf
      simp only [hI_lit, hL_lit, hI_neg, hI_add, hI_sub, bnd_s, bnd2_s, bnd3_s, ↓reduceIte, eq_self, if_true, if_false, Bool.false_eq_true, Bool.true_eq_false, r2, r3, r4, r5, n1, n2, n3, n4, n5, pr0, z0]
    · unfold fM_isDone fM_may
      simp only [hI_lit, hL_lit, hI_neg, hI_add, hI_sub, bnd_s, bnd2_s, bnd3_s, ↓reduceIte, eq_self, if_true, if_false, Bool.false_eq_true, Bool.true_eq_false, m4, m5, m6, k0, k1, k2, k3, k4, ah]
theorem x_rip (hr : hR G (hm M)) (hv : hV B (hm M)) (a1 : 0 ≤ a) (a2 : a ≤ 9999) (r2 : rd 40 (sA C 2) (hI j) = some (hI 5)) (r3 : rd 40 (sA C 3) (hI j) = some (hI a)) (r4 : rd 40 (sA C 4) (hI j) = some (hI b)) (r5 : rd 40 (sA C 5) (hI j) = some (hI c)) (m4 : rd 60 (mA M 254) (hI k) = some (hI 4)) (m5 : rd 60 (mA M 255) (hI k) = some (hI a)) (m6 : rd 60 (mA M 256) (hI k) = some b') : EX B C G M j k := by
  have n1 : (hI 5 = hI 1) = False := eq_false (by decide)
  have n2 : (hI 5 = hI 2) = False := eq_false (by decide)
  have n3 : (hI 5 = hI 3) = False := eq_false (by decide)
  have n4 : (hI 5 = hI 4) = False := eq_false (by decide)
  have k0 : (hI 4 = hI 0) = False := eq_false (by decide)
  have k1 : (hI 4 = hI 1) = False := eq_false (by decide)
  have k2 : (hI 4 = hI 2) = False := eq_false (by decide)
  have k3 : (hI 4 = hI 3) = False := eq_false (by decide)
  have h0 := hv.1.1
  have y0 := hasGore_d (x := a) hr hv (by omega) (by omega)
  have y3 := Mgore_d (x := a) hv (by omega) (by omega)
  by_cases d : 0 ≤ a ∧ a < hm M 0
  · rw [decide_eq_true d] at y0 y3
    have y1 := g_torn (k := a) hr a1 d.2 (by omega) hv
    have y2 := m_torn (M := M) (k := a) a1 (by omega)
    by_cases cx : hm M (26 + a) = 0
    · rw [decide_eq_true cx] at y1 y2
      have z0 : (hI 3 = hI 0) = False := eq_false (by decide)
      refine Or.inr ⟨?_, ?_⟩
      · unfold fS_execute fS_refusalOf fG_ripRefusal
        simp only [hI_lit, hL_lit, hI_neg, hI_add, hI_sub, bnd_s, bnd2_s, bnd3_s, ↓reduceIte, eq_self, if_true, if_false, Bool.false_eq_true, Bool.true_eq_false, r2, r3, r4, r5, n1, n2, n3, n4, y0, y1, z0]
      · unfold fM_isDone fM_may fM_mayRip
        simp only [hI_lit, hL_lit, hI_neg, hI_add, hI_sub, bnd_s, bnd2_s, bnd3_s, ↓reduceIte, eq_self, if_true, if_false, Bool.false_eq_true, Bool.true_eq_false, m4, m5, m6, k0, k1, k2, k3, y3, y2]
    · rw [decide_eq_false cx] at y1 y2
      obtain ⟨m', G2, M2, z1, z2, z3, z4, z5, z6⟩ := t_rip (k := a) hr hv a1 d.2
      refine Or.inl ⟨G2, wmF M2 29 (hI m'), ?_, ?_, z3, hV_le (by omega) z4, hfr_L z5, z6.1⟩
      · unfold fS_execute fS_refusalOf fG_ripRefusal
        simp only [hI_lit, hL_lit, hI_neg, hI_add, hI_sub, bnd_s, bnd2_s, bnd3_s, ↓reduceIte, eq_self, if_true, if_false, Bool.false_eq_true, Bool.true_eq_false, r2, r3, r4, r5, n1, n2, n3, n4, y0, y1, z1]
      · unfold fM_isDone fM_may fM_does fM_mayRip
        simp only [hI_lit, hL_lit, hI_neg, hI_add, hI_sub, bnd_s, bnd2_s, bnd3_s, ↓reduceIte, eq_self, if_true, if_false, Bool.false_eq_true, Bool.true_eq_false, m4, m5, m6, k0, k1, k2, k3, y3, y2, z2]
  · rw [decide_eq_false d] at y0 y3
    have z0 : (hI 1 = hI 0) = False := eq_false (by decide)
    refine Or.inr ⟨?_, ?_⟩
    · unfold fS_execute fS_refusalOf fG_ripRefusal
      simp only [hI_lit, hL_lit, hI_neg, hI_add, hI_sub, bnd_s, bnd2_s, bnd3_s, ↓reduceIte, eq_self, if_true, if_false, Bool.false_eq_true, Bool.true_eq_false, r2, r3, r4, r5, n1, n2, n3, n4, y0, z0]
    · unfold fM_isDone fM_may fM_mayRip
      simp only [hI_lit, hL_lit, hI_neg, hI_add, hI_sub, bnd_s, bnd2_s, bnd3_s, ↓reduceIte, eq_self, if_true, if_false, Bool.false_eq_true, Bool.true_eq_false, m4, m5, m6, k0, k1, k2, k3, y3]
end HIU

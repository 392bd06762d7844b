/-! COPIES: a Globe, a row, the rows kept to undo -/
section HHO
variable {σ τ : Int → Int} {M M1 M2 : zM} {G Go G1 : zG} {z v w k B b m d f : Int} {l : List Int} {I : zI}
theorem cpy_0 {α : Type} {g h : Nat → α} {n j : Nat} (hj : j < n) : va_cpy g h 0 0 n j = g j := by
  unfold va_cpy
  rw [if_pos (by omega)]
  congr 1
  omega
theorem gN_n2 {r r' c : Nat} {x : Int32} : gN (wgF G r c x) r' = gN G r' := rfl
theorem t_copyC (hr : hC Go σ) (b0 : σ 0 ≤ 12) : ∃ G1, fC_copyFrom G Go = some G1 ∧ hC G1 σ ∧ gA G1 5 = gA G 5 ∧ (∀ r c, r ≠ 1 → gF G1 r c = gF G r c) ∧ gN G1 = gN G ∧ gB G1 = gB G := by
  obtain ⟨a1, a2⟩ := hr
  refine ⟨wgA (wgA (wgA (wgF G 1 0 (gF Go 1 0)) 2 (va_cpy (gA Go 2) (gA (wgF G 1 0 (gF Go 1 0)) 2) 0 0 12)) 3 (va_cpy (gA Go 3) (gA (wgA (wgF G 1 0 (gF Go 1 0)) 2 (va_cpy (gA Go 2) (gA (wgF G 1 0 (gF Go 1 0)) 2) 0 0 12)) 3) 0 0 12)) 4 (va_cpy (gA Go 4) (gA (wgA (wgA (wgF G 1 0 (gF Go 1 0)) 2 (va_cpy (gA Go 2) (gA (wgF G 1 0 (gF Go 1 0)) 2) 0 0 12)) 3 (va_cpy (gA Go 3) (gA (wgA (wgF G 1 0 (gF Go 1 0)) 2 (va_cpy (gA Go 2) (gA (wgF G 1 0 (gF Go 1 0)) 2) 0 0 12)) 3) 0 0 12)) 4) 0 0 12), rfl, ⟨?_, fun k k1 k2 => ?_⟩, rfl, fun r c hr => ?_, rfl, rfl⟩
  · show gF (wgF G 1 0 (gF Go 1 0)) 1 0 = _
    rw [gF_w, if_pos ⟨rfl, rfl⟩, a1]
  · have h3 := a2 k k1 k2
    unfold hRc at h3 ⊢
    refine ⟨?_, ?_, ?_⟩
    · rw [gA_wA, if_neg (by decide), gA_wA, if_neg (by decide), gA_wA, if_pos rfl, cpy_0 (by omega)]; exact h3.1
    · rw [gA_wA, if_neg (by decide), gA_wA, if_pos rfl, cpy_0 (by omega)]; exact h3.2.1
    · rw [gA_wA, if_pos rfl, cpy_0 (by omega)]; exact h3.2.2
  · show gF (wgF G 1 0 (gF Go 1 0)) r c = _
    rw [gF_w, if_neg (fun z => hr z.1)]
theorem t_copy (hr : hR Go σ) (b0 : σ 0 ≤ 12) (c1 : 0 ≤ σ 1 ∧ σ 1 ≤ 10) (c2 : 0 ≤ σ 2 ∧ σ 2 ≤ 8) : ∃ G1, fG_copyFrom G Go = some G1 ∧ hR G1 σ := by
  obtain ⟨G2, e1, q1, q2, q3, q4, q5⟩ := t_copyC (G := G) (hR_C hr) b0
  obtain ⟨⟨a1, a2, a3, a4, a5⟩, ah, ac, as_, al⟩ := hr
  -- labels
  have lab : ∀ G3 : zG, hC G3 σ → gF G3 0 2 = hI (σ 4) → gF G3 0 3 = hI (σ 3) → gF G3 0 4 = hI (σ 1) → gF G3 0 6 = hI (σ 2) → (∀ b : Int, 0 ≤ b → b < 9 → gA G3 5 b.toNat = hI (σ (5 + b))) → (∀ k : Int, 0 ≤ k → k < σ 1 → hRs G3 σ k) → ∃ r, iter (fun s => fG_copyFrom_b91 Go s.1 s.2) fu (G3, hI 0) = some r ∧ hR r σ := by
    intro G3 g1 g2 g3 g4 g5 g6 g7
    refine it_one (σ 2).toNat (fun i s => ∃ G4, s = (G4, hI i) ∧ hC G4 σ ∧ gF G4 0 2 = hI (σ 4) ∧ gF G4 0 3 = hI (σ 3) ∧ gF G4 0 4 = hI (σ 1) ∧ gF G4 0 6 = hI (σ 2) ∧ (∀ b : Int, 0 ≤ b → b < 9 → gA G4 5 b.toNat = hI (σ (5 + b))) ∧ (∀ k : Int, 0 ≤ k → k < σ 1 → hRs G4 σ k) ∧ (∀ k : Int, 0 ≤ k → k < i → hRl G4 σ k)) _ (by omega) ⟨G3, rfl, g1, g2, g3, g4, g5, g6, g7, fun k k1 k2 => by omega⟩ ?_
    rintro i s hi ⟨G4, rfl, h1, h2, h3, h4, h5, h6, h7, h8⟩
    unfold fG_copyFrom_b91
    dsimp only
    by_cases c : (i : Int) < σ 2
    · have hl := al i (by omega) c
      simp (disch := omega) only [↓reduceIte, Int.reduceEq, Int.reduceLT, bnd_s, bnd2_s, bnd3_s, hI_lit, hL_lit, hI_add, hI_sub, hI_mul, hI_neg, hI_lt, hI_eq, if_true, if_false, eq_self_iff_true, true_and, and_true, false_and, and_false, decide_eq_true_eq, not_true, not_false_iff, Bool.false_eq_true, Bool.true_eq_false, h5, c, rix_hI, fL_copyFrom]
      refine Or.inl ⟨by omega, _, rfl, _, rfl, ⟨?_, fun k k1 k2 => ?_⟩, ?_, ?_, ?_, ?_, h6, fun k k1 k2 => ?_, fun k k1 k2 => ?_⟩
      · rw [gF_wB, gF_n (by omega), gF_n (by omega), gF_n (by omega)]; exact h1.1
      · exact h1.2 k k1 k2
      · rw [gF_wB, gF_n (by omega), gF_n (by omega), gF_n (by omega)]; exact h2
      · rw [gF_wB, gF_n (by omega), gF_n (by omega), gF_n (by omega)]; exact h3
      · rw [gF_wB, gF_n (by omega), gF_n (by omega), gF_n (by omega)]; exact h4
      · rw [gF_wB, gF_n (by omega), gF_n (by omega), gF_n (by omega)]; exact h5
      · have h9 := h7 k k1 k2
        unfold hRs at h9 ⊢
        rw [gF_wB, gF_n (by omega), gF_n (by omega), gF_n (by omega), gB_n (by omega)]
        exact h9
      · unfold hRl at hl ⊢
        by_cases e : k = i
        · subst e
          refine ⟨?_, ?_, ?_, ?_⟩
          · rw [gF_wB, gF_w, if_neg (by omega), gF_w, if_neg (by omega), gF_w, if_pos ⟨rfl, rfl⟩]; exact hl.1
          · rw [gF_wB, gF_w, if_neg (by omega), gF_w, if_pos ⟨rfl, rfl⟩]; exact hl.2.1
          · rw [gF_wB, gF_w, if_pos ⟨rfl, rfl⟩]; exact hl.2.2.1
          · rw [gB_wB, if_pos rfl]; exact hl.2.2.2
        · have h9 := h8 k k1 (by omega)
          unfold hRl at h9
          rw [gF_wB, gF_n (by omega), gF_n (by omega), gF_n (by omega), gB_n (by omega)]
          exact h9
    · simp (disch := omega) only [↓reduceIte, Int.reduceEq, Int.reduceLT, bnd_s, bnd2_s, bnd3_s, hI_lit, hL_lit, hI_add, hI_sub, hI_mul, hI_neg, hI_lt, hI_eq, if_true, if_false, eq_self_iff_true, true_and, and_true, false_and, and_false, decide_eq_true_eq, not_true, not_false_iff, Bool.false_eq_true, Bool.true_eq_false, h5, c]
      exact Or.inr ⟨_, rfl, ⟨h1.1, h2, h3, h4, h5⟩, h6, h1.2, h7, fun k k1 k2 => h8 k k1 (by omega)⟩
  -- spots
  have spo : ∀ G3 : zG, hC G3 σ → gF G3 0 2 = hI (σ 4) → gF G3 0 3 = hI (σ 3) → gF G3 0 4 = hI (σ 1) → (∀ b : Int, 0 ≤ b → b < 9 → gA G3 5 b.toNat = hI (σ (5 + b))) → ∃ r, iter (fun s => fG_copyFrom_b52 Go s.1 s.2) fu (G3, hI 0) = some r ∧ hR r σ := by
    intro G3 g1 g2 g3 g4 g6
    refine it_one (σ 1).toNat (fun i s => ∃ G4, s = (G4, hI i) ∧ hC G4 σ ∧ gF G4 0 2 = hI (σ 4) ∧ gF G4 0 3 = hI (σ 3) ∧ gF G4 0 4 = hI (σ 1) ∧ (∀ b : Int, 0 ≤ b → b < 9 → gA G4 5 b.toNat = hI (σ (5 + b))) ∧ (∀ k : Int, 0 ≤ k → k < i → hRs G4 σ k)) _ (by omega) ⟨G3, rfl, g1, g2, g3, g4, g6, fun k k1 k2 => by omega⟩ ?_
    rintro i s hi ⟨G4, rfl, h1, h2, h3, h4, h6, h7⟩
    unfold fG_copyFrom_b52
    dsimp only
    by_cases c : (i : Int) < σ 1
    · obtain ⟨⟨l, l1, l2, l3, l4⟩, s2, s3, s4, s5, s6, s7, s8⟩ := as_ i (by omega) c
      simp (disch := omega) only [↓reduceIte, Int.reduceEq, Int.reduceLT, bnd_s, bnd2_s, bnd3_s, hI_lit, hL_lit, hI_add, hI_sub, hI_mul, hI_neg, hI_lt, hI_eq, if_true, if_false, eq_self_iff_true, true_and, and_true, false_and, and_false, decide_eq_true_eq, not_true, not_false_iff, Bool.false_eq_true, Bool.true_eq_false, h4, c, rix_hI, fP_copyFrom]
      refine Or.inl ⟨by omega, _, rfl, _, rfl, ⟨?_, fun k k1 k2 => ?_⟩, ?_, ?_, ?_, h6, fun k k1 k2 => ?_⟩
      · rw [gF_n (by omega), gF_n (by omega), gF_n (by omega), gF_n (by omega), gF_n (by omega), gF_n (by omega), gF_wB, gF_wN]; exact h1.1
      · exact h1.2 k k1 k2
      · rw [gF_n (by omega), gF_n (by omega), gF_n (by omega), gF_n (by omega), gF_n (by omega), gF_n (by omega), gF_wB, gF_wN]; exact h2
      · rw [gF_n (by omega), gF_n (by omega), gF_n (by omega), gF_n (by omega), gF_n (by omega), gF_n (by omega), gF_wB, gF_wN]; exact h3
      · rw [gF_n (by omega), gF_n (by omega), gF_n (by omega), gF_n (by omega), gF_n (by omega), gF_n (by omega), gF_wB, gF_wN]; exact h4
      · unfold hRs
        by_cases e : k = i
        · subst e
          refine ⟨⟨l, l1, ?_, l3, l4⟩, ?_, ?_, ?_, ?_, ?_, ?_, ?_⟩
          · show gN (wgN G4 (7 + (i : Int).toNat) (gN Go (7 + (i : Int).toNat))) (7 + (i : Int).toNat) = _
            rw [gN_wN, if_pos rfl]; exact l2
          · show gB (wgB (wgN G4 (7 + (i : Int).toNat) (gN Go (7 + (i : Int).toNat))) (7 + (i : Int).toNat) (gB Go (7 + (i : Int).toNat))) (7 + (i : Int).toNat) = _
            rw [gB_wB, if_pos rfl]; exact s2
          · rw [gF_w, if_neg (by omega), gF_w, if_neg (by omega), gF_w, if_neg (by omega), gF_w, if_neg (by omega), gF_w, if_neg (by omega), gF_w, if_pos ⟨rfl, rfl⟩]; exact s3
          · rw [gF_w, if_neg (by omega), gF_w, if_neg (by omega), gF_w, if_neg (by omega), gF_w, if_neg (by omega), gF_w, if_pos ⟨rfl, rfl⟩]; exact s4
          · rw [gF_w, if_neg (by omega), gF_w, if_neg (by omega), gF_w, if_neg (by omega), gF_w, if_pos ⟨rfl, rfl⟩]; exact s5
          · rw [gF_w, if_neg (by omega), gF_w, if_neg (by omega), gF_w, if_pos ⟨rfl, rfl⟩]; exact s6
          · rw [gF_w, if_neg (by omega), gF_w, if_pos ⟨rfl, rfl⟩]; exact s7
          · rw [gF_w, if_pos ⟨rfl, rfl⟩]; exact s8
        · have h9 := h7 k k1 (by omega)
          unfold hRs at h9
          rw [gF_n (by omega), gF_n (by omega), gF_n (by omega), gF_n (by omega), gF_n (by omega), gF_n (by omega), gF_wB, gF_wN]
          have eN : gN (wgF (wgF (wgF (wgF (wgF (wgF (wgB (wgN G4 (7 + (i : Int).toNat) (gN Go (7 + (i : Int).toNat))) (7 + (i : Int).toNat) (gB Go (7 + (i : Int).toNat))) (7 + (i : Int).toNat) 2 (gF Go (7 + (i : Int).toNat) 2)) (7 + (i : Int).toNat) 3 (gF Go (7 + (i : Int).toNat) 3)) (7 + (i : Int).toNat) 4 (gF Go (7 + (i : Int).toNat) 4)) (7 + (i : Int).toNat) 5 (gF Go (7 + (i : Int).toNat) 5)) (7 + (i : Int).toNat) 6 (gF Go (7 + (i : Int).toNat) 6)) (7 + (i : Int).toNat) 7 (gF Go (7 + (i : Int).toNat) 7)) (7 + k.toNat) = gN G4 (7 + k.toNat) := by
            show gN (wgN G4 (7 + (i : Int).toNat) (gN Go (7 + (i : Int).toNat))) (7 + k.toNat) = _
            rw [gN_n (by omega)]
          have eB : gB (wgF (wgF (wgF (wgF (wgF (wgF (wgB (wgN G4 (7 + (i : Int).toNat) (gN Go (7 + (i : Int).toNat))) (7 + (i : Int).toNat) (gB Go (7 + (i : Int).toNat))) (7 + (i : Int).toNat) 2 (gF Go (7 + (i : Int).toNat) 2)) (7 + (i : Int).toNat) 3 (gF Go (7 + (i : Int).toNat) 3)) (7 + (i : Int).toNat) 4 (gF Go (7 + (i : Int).toNat) 4)) (7 + (i : Int).toNat) 5 (gF Go (7 + (i : Int).toNat) 5)) (7 + (i : Int).toNat) 6 (gF Go (7 + (i : Int).toNat) 6)) (7 + (i : Int).toNat) 7 (gF Go (7 + (i : Int).toNat) 7)) (7 + k.toNat) = gB G4 (7 + k.toNat) := by
            show gB (wgB (wgN G4 (7 + (i : Int).toNat) (gN Go (7 + (i : Int).toNat))) (7 + (i : Int).toNat) (gB Go (7 + (i : Int).toNat))) (7 + k.toNat) = _
            rw [gB_n (by omega)]; rfl
          rw [eN, eB]
          exact h9
    · have L := lab (wgF G4 0 6 (gF Go 0 6)) ?_ ?_ ?_ ?_ ?_ h6 ?_
      · obtain ⟨r, z1, z2⟩ := L
        simp (disch := omega) only [↓reduceIte, Int.reduceEq, Int.reduceLT, bnd_s, bnd2_s, bnd3_s, hI_lit, hL_lit, hI_add, hI_sub, hI_mul, hI_neg, hI_lt, hI_eq, if_true, if_false, eq_self_iff_true, true_and, and_true, false_and, and_false, decide_eq_true_eq, not_true, not_false_iff, Bool.false_eq_true, Bool.true_eq_false, h4, c, z1, Option.map_some]
        exact Or.inr ⟨_, rfl, z2⟩
      · exact ⟨by rw [gF_n (by omega)]; exact h1.1, h1.2⟩
      · rw [gF_w, if_neg (by omega)]; exact h2
      · rw [gF_w, if_neg (by omega)]; exact h3
      · rw [gF_w, if_neg (by omega)]; exact h4
      · rw [gF_w, if_pos ⟨rfl, rfl⟩]; exact a5
      · intro k k1 k2
        have h9 := h7 k k1 (by omega)
        unfold hRs at h9 ⊢
        rw [gF_n (by omega)]
        exact h9
  unfold fG_copyFrom
  rw [e1, bnd_s, bnd_s, bnd_s, bnd_s, bnd_s]
  have S := spo (wgF (wgF (wgF (wgA G2 5 (va_cpy (gA Go 5) (gA G2 5) 0 0 9)) 0 2 (gF Go 0 2)) 0 3 (gF Go 0 3)) 0 4 (gF Go 0 4)) ?_ ?_ ?_ ?_ ?_
  · exact S
  · refine ⟨?_, fun k k1 k2 => ?_⟩
    · rw [gF_n (by omega), gF_n (by omega), gF_n (by omega), gF_wA]; exact q1.1
    · have h9 := q1.2 k k1 k2
      unfold hRc at h9 ⊢
      show gA (wgA G2 5 _) 2 _ = _ ∧ gA (wgA G2 5 _) 3 _ = _ ∧ gA (wgA G2 5 _) 4 _ = _
      rw [gA_wA, gA_wA, gA_wA, if_neg (by decide), if_neg (by decide), if_neg (by decide)]
      exact h9
  · rw [gF_w, if_neg (by omega), gF_w, if_neg (by omega), gF_w, if_pos ⟨rfl, rfl⟩]; exact a2
  · rw [gF_w, if_neg (by omega), gF_w, if_pos ⟨rfl, rfl⟩]; exact a3
  · rw [gF_w, if_pos ⟨rfl, rfl⟩]; exact a4
  · intro b b1 b2
    show gA (wgA G2 5 _) 5 _ = _
    rw [gA_wA, if_pos rfl, cpy_0 (by omega)]
    exact ah b b1 b2
end HHO

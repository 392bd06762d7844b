/-! VIOLATIONS, MEANS AND SHARES -/
section HHT
variable {σ τ : Int → Int} {M M1 M2 : zM} {G Go G1 : zG} {z v w k B b m d f x y : Int} {l : List Int} {I : zI} {Y : Nat → Int32} {Γ : Nat → zG} {D : zD} {O : Nat → Int32}
def sm (p : Int → Int) : Nat → Int
  | 0 => 0
  | n + 1 => sm p n + p n
theorem sm_c {p q : Int → Int} (n : Nat) (h : ∀ i : Nat, i < n → p i = q i) : sm p n = sm q n := by
  induction n with
  | zero => rfl
  | succ n ih =>
    show sm p n + p n = sm q n + q n
    rw [ih (fun i hi => h i (by omega)), h n (by omega)]
theorem sm_add {p q : Int → Int} (n : Nat) : sm (fun i => p i + q i) n = sm p n + sm q n := by
  induction n with
  | zero => rfl
  | succ n ih =>
    show sm (fun i => p i + q i) n + (p n + q n) = (sm p n + p n) + (sm q n + q n)
    rw [ih]; omega
/-- a loop that adds -/
theorem it_sum {b : Int32 × Int32 → Option ((Int32 × Int32) ⊕ Int32)} {p : Int → Int} {n : Nat} (hn : n < 900000) (h1 : ∀ (i : Nat) (c : Int), i < n → b (hI c, hI i) = some (.inl (hI (c + p i), hI ((i : Int) + 1)))) (h2 : ∀ c : Int, b (hI c, hI n) = some (.inr (hI c))) : iter b fu (hI 0, hI 0) = some (hI (sm p n)) := by
  obtain ⟨r, e, hr⟩ := it_one (b := b) n (fun i s => s = (hI (sm p i), hI i)) (fun r => r = hI (sm p n)) hn rfl (fun i s hi hs => by
    subst hs
    by_cases c : i < n
    · exact Or.inl ⟨c, _, h1 i _ c, rfl⟩
    · have : i = n := by omega
      subst this
      exact Or.inr ⟨_, h2 _, rfl⟩)
  rw [hr] at e
  exact e
def wD (σ : Int → Int) (k : Int) : Int := if σ (38 + 9 * k + 2) = 1 then (if hI (σ (38 + 9 * k + 5)) = hI (lh σ (σ (38 + 9 * k + 3)) (σ (38 + 9 * k + 4)) / 24) then 0 else 1) else 0
def wB (σ : Int → Int) (b : Int) : Int := if lh σ b (σ (5 + b)) / 24 = (σ 4 + σ (5 + b) / 15) / 24 - 1 then 0 else 1
def wH (σ : Int → Int) (b : Int) : Int := if (0 ≤ b + 1 ∧ b + 1 ≤ 8) ∧ 60 < gp (σ (5 + (b + 1))) (σ (5 + b)) then 1 else 0
def xL (σ : Int → Int) (k : Int) : Prop := cr σ k (σ (5 + σ (128 + 4 * k + 0))) ∨ ∃ j, 0 ≤ j ∧ j < σ 0 ∧ σ (26 + j) = 0 ∧ cr σ k (bg σ j)
theorem g_wD (hr : hR G σ) (h : hV B σ) (hB : B < 900000000) : fG_countWrongDiaries G = some (hI (sm (wD σ) (σ 1).toNat)) := by
  have h1 := h.1.2.1
  refine it_sum (by omega) (fun i c hi => ?_) (fun c => ?_)
  · have k1 : (0 : Int) ≤ i := by omega
    have k2 : (i : Int) < σ 1 := by omega
    have hs := h.2.2.2.1 i k1 k2
    unfold hVs at hs
    have g := g_ld (b := σ (38 + 9 * (i : Int) + 3)) (m := σ (38 + 9 * (i : Int) + 4)) hr h (by omega) (by omega) (by omega) (by omega) (by omega)
    unfold fG_countWrongDiaries_b4 wD
    by_cases c1 : σ (38 + 9 * (i : Int) + 2) = 1
    · by_cases c2 : hI (σ (38 + 9 * (i : Int) + 5)) = hI (lh σ (σ (38 + 9 * (i : Int) + 3)) (σ (38 + 9 * (i : Int) + 4)) / 24)
      · simp (disch := omega) only [bnd_s, ↓reduceIte, hI_lit, hI_add, hI_lt, decide_true, r_spots hr, k2, rix_hI, r_trav hr k1 k2, r_s2 hr k1 k2, r_s3 hr k1 k2, r_s4 hr k1 k2, g, c1, c2, Int.add_zero]
      · simp (disch := omega) only [bnd_s, ↓reduceIte, hI_lit, hI_add, hI_lt, decide_true, r_spots hr, k2, rix_hI, r_trav hr k1 k2, r_s2 hr k1 k2, r_s3 hr k1 k2, r_s4 hr k1 k2, g, c1, c2]
    · simp (disch := omega) only [↓reduceIte, Int.reduceEq, Int.reduceLT, bnd_s, bnd2_s, bnd3_s, hI_lit, hL_lit, hI_add, hI_sub, hI_mul, hI_neg, hI_lt, hI_eq, if_true, if_false, eq_self_iff_true, true_and, and_true, false_and, and_false, decide_eq_true_eq, not_true, not_false_iff, Bool.false_eq_true, Bool.true_eq_false, r_spots hr, k2, rix_hI, r_trav hr k1 k2, c1, decide_false, Int.add_zero]
  · unfold fG_countWrongDiaries_b4
    have e : ¬ (((σ 1).toNat : Nat) : Int) < σ 1 := by omega
    simp (disch := omega) only [↓reduceIte, Int.reduceEq, Int.reduceLT, bnd_s, bnd2_s, bnd3_s, hI_lit, hL_lit, hI_add, hI_sub, hI_mul, hI_neg, hI_lt, hI_eq, if_true, if_false, eq_self_iff_true, true_and, and_true, false_and, and_false, decide_eq_true_eq, not_true, not_false_iff, Bool.false_eq_true, Bool.true_eq_false, r_spots hr, e]
theorem g_wB (hr : hR G σ) (h : hV B σ) (hB : B < 900000000) : fG_countWrongDays G = some (hI (sm (wB σ) 9)) := by
  have h4 := h.1.2.2.2
  refine it_sum (by omega) (fun i c hi => ?_) (fun c => ?_)
  · have k1 : (0 : Int) ≤ i := by omega
    have k2 : (i : Int) < 9 := by omega
    have hq := h.2.1 i k1 k2
    have hl := lh_r (b := (i : Int)) (m := σ (5 + (i : Int))) h (by omega) (by omega) (by omega)
    have g := g_ld (b := (i : Int)) (m := σ (5 + (i : Int))) hr h (by omega) k1 k2 (by omega) (by omega)
    have f1 := fJ_div (a := σ (5 + (i : Int))) (d := 15) (Or.inl rfl) (by omega) (by omega)
    have f2 := fJ_div (a := σ 4 + σ (5 + (i : Int)) / 15) (d := 24) (Or.inr rfl) (by omega) (by omega)
    unfold fG_countWrongDays_b4 wB
    by_cases c1 : lh σ i (σ (5 + (i : Int))) / 24 = (σ 4 + σ (5 + (i : Int)) / 15) / 24 - 1
    · simp (disch := omega) only [↓reduceIte, Int.reduceEq, Int.reduceLT, bnd_s, bnd2_s, bnd3_s, hI_lit, hL_lit, hI_add, hI_sub, hI_mul, hI_neg, hI_lt, hI_eq, if_true, if_false, eq_self_iff_true, true_and, and_true, false_and, and_false, decide_eq_true_eq, not_true, not_false_iff, Bool.false_eq_true, Bool.true_eq_false, k2, r_hem hr, f1, r_clock hr, f2, g, c1, Int.add_zero]
    · simp (disch := omega) only [↓reduceIte, Int.reduceEq, Int.reduceLT, bnd_s, bnd2_s, bnd3_s, hI_lit, hL_lit, hI_add, hI_sub, hI_mul, hI_neg, hI_lt, hI_eq, if_true, if_false, eq_self_iff_true, true_and, and_true, false_and, and_false, decide_eq_true_eq, not_true, not_false_iff, Bool.false_eq_true, Bool.true_eq_false, k2, r_hem hr, f1, r_clock hr, f2, g, c1]
  · unfold fG_countWrongDays_b4
    have e : ¬ ((9 : Nat) : Int) < 9 := by omega
    simp (disch := omega) only [↓reduceIte, Int.reduceEq, Int.reduceLT, bnd_s, bnd2_s, bnd3_s, hI_lit, hL_lit, hI_add, hI_sub, hI_mul, hI_neg, hI_lt, hI_eq, if_true, if_false, eq_self_iff_true, true_and, and_true, false_and, and_false, decide_eq_true_eq, not_true, not_false_iff, Bool.false_eq_true, Bool.true_eq_false, e]
theorem g_wH (hr : hR G σ) (h : hV B σ) : fG_countWideHems G = some (hI (sm (wH σ) 9)) := by
  have e9 : sm (wH σ) 9 = sm (wH σ) 8 := by
    show sm (wH σ) 8 + wH σ ((8 : Nat) : Int) = _
    unfold wH
    rw [if_neg (by omega)]; omega
  rw [e9]
  refine it_sum (by omega) (fun i c hi => ?_) (fun c => ?_)
  · have k1 : (0 : Int) ≤ i := by omega
    have k2 : (i : Int) < 8 := by omega
    have hq := h.2.1 i k1 (by omega)
    have hq2 := h.2.1 ((i : Int) + 1) (by omega) (by omega)
    have gw := g_wide (x := σ (5 + (i : Int))) (y := σ (5 + ((i : Int) + 1))) (by omega) (by omega) (by omega) (by omega)
    unfold fG_countWideHems_b4 wH
    by_cases c1 : 60 < gp (σ (5 + (i : Int))) (σ (5 + ((i : Int) + 1)))
    · have c3 : ((0 ≤ (i : Int) + 1 ∧ (i : Int) + 1 ≤ 8) ∧ 60 < gp (σ (5 + ((i : Int) + 1))) (σ (5 + (i : Int)))) = True := eq_true ⟨by omega, by rw [gp_c]; exact c1⟩
      simp (disch := omega) only [↓reduceIte, Int.reduceEq, Int.reduceLT, bnd_s, bnd2_s, bnd3_s, hI_lit, hL_lit, hI_add, hI_sub, hI_mul, hI_neg, hI_lt, hI_eq, if_true, if_false, eq_self_iff_true, true_and, and_true, false_and, and_false, decide_eq_true_eq, not_true, not_false_iff, Bool.false_eq_true, Bool.true_eq_false, k2, r_hem hr, gw, c1, c3, decide_true]
    · have c3 : ((0 ≤ (i : Int) + 1 ∧ (i : Int) + 1 ≤ 8) ∧ 60 < gp (σ (5 + ((i : Int) + 1))) (σ (5 + (i : Int)))) = False := eq_false (fun z => c1 (by rw [gp_c]; exact z.2))
      simp (disch := omega) only [↓reduceIte, Int.reduceEq, Int.reduceLT, bnd_s, bnd2_s, bnd3_s, hI_lit, hL_lit, hI_add, hI_sub, hI_mul, hI_neg, hI_lt, hI_eq, if_true, if_false, eq_self_iff_true, true_and, and_true, false_and, and_false, decide_eq_true_eq, not_true, not_false_iff, Bool.false_eq_true, Bool.true_eq_false, k2, r_hem hr, gw, c1, c3, decide_false, Int.add_zero]
  · unfold fG_countWideHems_b4
    have e : ¬ ((8 : Nat) : Int) < 8 := by omega
    simp (disch := omega) only [↓reduceIte, Int.reduceEq, Int.reduceLT, bnd_s, bnd2_s, bnd3_s, hI_lit, hL_lit, hI_add, hI_sub, hI_mul, hI_neg, hI_lt, hI_eq, if_true, if_false, eq_self_iff_true, true_and, and_true, false_and, and_false, decide_eq_true_eq, not_true, not_false_iff, Bool.false_eq_true, Bool.true_eq_false, e]
/-- labels that cross what they may not: one sum on both sides -/
theorem t_xL (hr : hR G (hm M)) (h : hV B (hm M)) (k1 : 0 ≤ k) (k2 : k < hm M 2) (c0 : 0 ≤ v) (c1 : v < 100) : ∃ t : Bool, iter (fun s => fG_countWrongLabels_b39 G (hI v) (hI k) s.1 s.2) fu ((fL_crosses G k.toNat (hI (hm M (5 + hm M (128 + 4 * k + 0))))), hI 0) = some (.inl (hI (v + (if t = true then 1 else 0)), hI (k + 1))) ∧ fM_isStrangeLabel M (hI k) = some t := by
  have h0 := h.1.1
  have h2 := h.1.2.2.1
  have hl := h.2.2.2.2.1 k k1 k2
  unfold hVl at hl
  have hq := h.2.1 (hm M (128 + 4 * k + 0)) (by omega) (by omega)
  obtain ⟨t0, e0, ht0⟩ := g_cross (m := hm M (5 + hm M (128 + 4 * k + 0))) hr h k1 k2 (by omega) (by omega)
  have key : ∃ r, iter (fun s => fG_countWrongLabels_b39 G (hI v) (hI k) s.1 s.2) fu (t0, hI 0) = some r ∧ ∃ t : Bool, r = .inl (hI (v + (if t = true then 1 else 0)), hI (k + 1)) ∧ (t = true ↔ xL (hm M) k) := by
    refine it_one (hm M 0).toNat (fun i s => ∃ t : Bool, s = (t, hI i) ∧ (t = true ↔ (cr (hm M) k (hm M (5 + hm M (128 + 4 * k + 0))) ∨ ∃ j, 0 ≤ j ∧ j < (i : Int) ∧ hm M (26 + j) = 0 ∧ cr (hm M) k (bg (hm M) j)))) _ (by omega) ⟨t0, rfl, ht0.trans ⟨fun z => Or.inl z, fun z => z.elim id (fun ⟨j, j1, j2, _⟩ => by omega)⟩⟩ ?_
    rintro i s hi ⟨t, rfl, ht⟩
    have hi2 : i ≤ (hm M 0).toNat := hi
    unfold fG_countWrongLabels_b39
    dsimp only
    by_cases c : (i : Int) < hm M 0
    · have hi3 : i < (hm M 0).toNat := by clear ht; omega
      have hb := bg_r h (k := i) (by omega) c
      cases t with
      | true =>
        simp (disch := omega) only [↓reduceIte, Int.reduceEq, Int.reduceLT, bnd_s, bnd2_s, bnd3_s, hI_lit, hL_lit, hI_add, hI_sub, hI_mul, hI_neg, hI_lt, hI_eq, if_true, if_false, eq_self_iff_true, true_and, and_true, false_and, and_false, decide_eq_true_eq, not_true, not_false_iff, Bool.false_eq_true, Bool.true_eq_false, r_gores hr, c]
        refine Or.inl ⟨hi3, _, rfl, true, rfl, ⟨fun _ => ?_, fun _ => rfl⟩⟩
        rcases ht.mp rfl with z | ⟨j, j1, j2, j3⟩
        · exact Or.inl z
        · exact Or.inr ⟨j, j1, by omega, j3⟩
      | false =>
        have hno := fun z => (absurd (ht.mpr z) (by decide) : False)
        by_cases ct : hm M (26 + (i : Int)) = 0
        · obtain ⟨u, eu, hu0⟩ := g_cross (m := bg (hm M) i) hr h k1 k2 (by omega) (by omega)
          cases u with
          | true =>
            simp (disch := omega) only [↓reduceIte, Int.reduceEq, Int.reduceLT, bnd_s, bnd2_s, bnd3_s, hI_lit, hL_lit, hI_add, hI_sub, hI_mul, hI_neg, hI_lt, hI_eq, if_true, if_false, eq_self_iff_true, true_and, and_true, false_and, and_false, decide_eq_true_eq, not_true, not_false_iff, Bool.false_eq_true, Bool.true_eq_false, r_gores hr, c, g_torn hr (show (0 : Int) ≤ i by omega) c (show (i : Int) < 12 by omega) h, ct, decide_true, rix_hI, r_begin hr, eu]
            exact Or.inl ⟨hi3, _, rfl, true, rfl, ⟨fun _ => Or.inr ⟨i, by omega, by omega, ct, hu0.mp rfl⟩, fun _ => rfl⟩⟩
          | false =>
            simp (disch := omega) only [↓reduceIte, Int.reduceEq, Int.reduceLT, bnd_s, bnd2_s, bnd3_s, hI_lit, hL_lit, hI_add, hI_sub, hI_mul, hI_neg, hI_lt, hI_eq, if_true, if_false, eq_self_iff_true, true_and, and_true, false_and, and_false, decide_eq_true_eq, not_true, not_false_iff, Bool.false_eq_true, Bool.true_eq_false, r_gores hr, c, g_torn hr (show (0 : Int) ≤ i by omega) c (show (i : Int) < 12 by omega) h, ct, decide_true, rix_hI, r_begin hr, eu]
            refine Or.inl ⟨hi3, _, rfl, false, rfl, ⟨fun z => Bool.noConfusion z, fun z => ?_⟩⟩
            rcases z with z | ⟨j, j1, j2, j3, j4⟩
            · exact (hno (Or.inl z)).elim
            · by_cases e : j = i
              · subst e; exact Bool.noConfusion (hu0.mpr j4)
              · exact (hno (Or.inr ⟨j, j1, by omega, j3, j4⟩)).elim
        · simp (disch := omega) only [↓reduceIte, Int.reduceEq, Int.reduceLT, bnd_s, bnd2_s, bnd3_s, hI_lit, hL_lit, hI_add, hI_sub, hI_mul, hI_neg, hI_lt, hI_eq, if_true, if_false, eq_self_iff_true, true_and, and_true, false_and, and_false, decide_eq_true_eq, not_true, not_false_iff, Bool.false_eq_true, Bool.true_eq_false, r_gores hr, c, g_torn hr (show (0 : Int) ≤ i by omega) c (show (i : Int) < 12 by omega) h, ct, decide_false]
          refine Or.inl ⟨hi3, _, rfl, false, rfl, ⟨fun z => Bool.noConfusion z, fun z => ?_⟩⟩
          rcases z with z | ⟨j, j1, j2, j3, j4⟩
          · exact (hno (Or.inl z)).elim
          · by_cases e : j = i
            · subst e; exact absurd j3 ct
            · exact (hno (Or.inr ⟨j, j1, by omega, j3, j4⟩)).elim
    · have hx : t = true ↔ xL (hm M) k := ht.trans ⟨fun z => z.elim Or.inl (fun ⟨j, j1, j2, j3⟩ => Or.inr ⟨j, j1, by omega, j3⟩), fun z => z.elim Or.inl (fun ⟨j, j1, j2, j3⟩ => Or.inr ⟨j, j1, by omega, j3⟩)⟩
      cases t with
      | true =>
        simp (disch := omega) only [↓reduceIte, Int.reduceEq, Int.reduceLT, bnd_s, bnd2_s, bnd3_s, hI_lit, hL_lit, hI_add, hI_sub, hI_mul, hI_neg, hI_lt, hI_eq, if_true, if_false, eq_self_iff_true, true_and, and_true, false_and, and_false, decide_eq_true_eq, not_true, not_false_iff, Bool.false_eq_true, Bool.true_eq_false, r_gores hr, c]
        exact Or.inr ⟨_, rfl, true, rfl, hx⟩
      | false =>
        simp (disch := omega) only [↓reduceIte, Int.reduceEq, Int.reduceLT, bnd_s, bnd2_s, bnd3_s, hI_lit, hL_lit, hI_add, hI_sub, hI_mul, hI_neg, hI_lt, hI_eq, if_true, if_false, eq_self_iff_true, true_and, and_true, false_and, and_false, decide_eq_true_eq, not_true, not_false_iff, Bool.false_eq_true, Bool.true_eq_false, r_gores hr, c]
        exact Or.inr ⟨_, rfl, false, by rw [if_neg (by decide), Int.add_zero], hx⟩
  obtain ⟨r, q, t, rfl, ht⟩ := key
  refine ⟨t, by rw [e0]; exact q, ?_⟩
  -- the reference
  obtain ⟨u, eu, hu0⟩ := m_cross (m := hm M (5 + hm M (128 + 4 * k + 0))) h k1 k2 (by omega) (by omega)
  unfold fM_isStrangeLabel
  by_cases c1 : hm M (128 + 4 * k + 3) = 1
  · have : t = false := by
      rw [Bool.eq_false_iff]
      intro z
      rcases ht.mp z with z | ⟨j, -, -, -, z⟩
      · have := z.1; omega
      · have := z.1; omega
    subst this
    simp (disch := omega) only [↓reduceIte, Int.reduceEq, Int.reduceLT, bnd_s, bnd2_s, bnd3_s, hI_lit, hL_lit, hI_add, hI_sub, hI_mul, hI_neg, hI_lt, hI_eq, if_true, if_false, eq_self_iff_true, true_and, and_true, false_and, and_false, decide_eq_true_eq, not_true, not_false_iff, Bool.false_eq_true, Bool.true_eq_false, m_its, c1]
  · have c3 : hm M (128 + 4 * k + 3) = 0 := by omega
    cases u with
    | true =>
      have : t = true := ht.mpr (Or.inl (hu0.mp rfl))
      subst this
      simp (disch := omega) only [↓reduceIte, Int.reduceEq, Int.reduceLT, bnd_s, bnd2_s, bnd3_s, hI_lit, hL_lit, hI_add, hI_sub, hI_mul, hI_neg, hI_lt, hI_eq, if_true, if_false, eq_self_iff_true, true_and, and_true, false_and, and_false, decide_eq_true_eq, not_true, not_false_iff, Bool.false_eq_true, Bool.true_eq_false, m_its, c1, mrd, eu]
    | false =>
      obtain ⟨t2, -, e2⟩ := t_crossTorn (f := hm M (128 + 4 * k + 1)) (la := hm M (128 + 4 * k + 1) + hm M (128 + 4 * k + 2) - 1) hr h (by omega) (by omega) (by omega)
      have ht2 : t2 = true ↔ ∃ m, hm M (128 + 4 * k + 1) < m ∧ m ≤ hm M (128 + 4 * k + 1) + hm M (128 + 4 * k + 2) - 1 ∧ tA (hm M) m := by
        have key2 : ∃ r, iter (fun s => fM_wouldCrossTorn_b4 M (hI (hm M (128 + 4 * k + 1) + hm M (128 + 4 * k + 2) - 1)) s) fu (hI (hm M (128 + 4 * k + 1) + 1)) = some r ∧ (r = true ↔ ∃ m, hm M (128 + 4 * k + 1) < m ∧ m ≤ hm M (128 + 4 * k + 1) + hm M (128 + 4 * k + 2) - 1 ∧ tA (hm M) m) := by
          refine it_one (hm M (128 + 4 * k + 2) - 1).toNat (fun i s => s = hI (hm M (128 + 4 * k + 1) + 1 + i) ∧ ∀ m, hm M (128 + 4 * k + 1) < m → m ≤ hm M (128 + 4 * k + 1) + i → ¬ tA (hm M) m) _ (by omega) ⟨congrArg hI (by omega), fun m m1 m2 => by omega⟩ ?_
          rintro i s hi ⟨rfl, hn⟩
          unfold fM_wouldCrossTorn_b4
          obtain ⟨y, ey, hy⟩ := m_tornAt (m := hm M (128 + 4 * k + 1) + 1 + i) h (by omega) (by omega)
          by_cases c : hm M (128 + 4 * k + 1) + hm M (128 + 4 * k + 2) - 1 < hm M (128 + 4 * k + 1) + 1 + i
          · simp (disch := omega) only [↓reduceIte, Int.reduceEq, Int.reduceLT, bnd_s, bnd2_s, bnd3_s, hI_lit, hL_lit, hI_add, hI_sub, hI_mul, hI_neg, hI_lt, hI_eq, if_true, if_false, eq_self_iff_true, true_and, and_true, false_and, and_false, decide_eq_true_eq, not_true, not_false_iff, Bool.false_eq_true, Bool.true_eq_false, c]
            exact Or.inr ⟨_, rfl, ⟨fun z => Bool.noConfusion z, fun ⟨m, m1, m2, m3⟩ => (hn m m1 (by omega) m3).elim⟩⟩
          · cases y with
            | true =>
              simp (disch := omega) only [↓reduceIte, Int.reduceEq, Int.reduceLT, bnd_s, bnd2_s, bnd3_s, hI_lit, hL_lit, hI_add, hI_sub, hI_mul, hI_neg, hI_lt, hI_eq, if_true, if_false, eq_self_iff_true, true_and, and_true, false_and, and_false, decide_eq_true_eq, not_true, not_false_iff, Bool.false_eq_true, Bool.true_eq_false, c, ey]
              exact Or.inr ⟨_, rfl, ⟨fun _ => ⟨_, by omega, by omega, hy.mp rfl⟩, fun _ => rfl⟩⟩
            | false =>
              simp (disch := omega) only [↓reduceIte, Int.reduceEq, Int.reduceLT, bnd_s, bnd2_s, bnd3_s, hI_lit, hL_lit, hI_add, hI_sub, hI_mul, hI_neg, hI_lt, hI_eq, if_true, if_false, eq_self_iff_true, true_and, and_true, false_and, and_false, decide_eq_true_eq, not_true, not_false_iff, Bool.false_eq_true, Bool.true_eq_false, c, ey]
              refine Or.inl ⟨by omega, _, rfl, congrArg hI (by omega), fun m m1 m2 => ?_⟩
              by_cases e : m = hm M (128 + 4 * k + 1) + 1 + i
              · subst e; exact fun z => Bool.noConfusion (hy.mpr z)
              · exact hn m m1 (by omega)
        obtain ⟨r, q, hr2⟩ := key2
        unfold fM_wouldCrossTorn at e2
        rw [show (1 : Int32) = hI 1 from rfl, hI_add, q] at e2
        cases e2
        exact hr2
      have : t = t2 := by
        rw [Bool.eq_iff_iff, ht, ht2]
        constructor
        · rintro (z | ⟨j, j1, j2, j3, z1, z2, z3⟩)
          · exact Bool.noConfusion (hu0.mpr z)
          · exact ⟨bg (hm M) j, z2, z3, j, j1, j2, rfl, j3⟩
        · rintro ⟨m, m1, m2, j, j1, j2, rfl, j4⟩
          exact Or.inr ⟨j, j1, j2, j4, c3, m1, m2⟩
      subst this
      cases t <;> simp (disch := omega) only [↓reduceIte, Int.reduceEq, Int.reduceLT, bnd_s, bnd2_s, bnd3_s, hI_lit, hL_lit, hI_add, hI_sub, hI_mul, hI_neg, hI_lt, hI_eq, if_true, if_false, eq_self_iff_true, true_and, and_true, false_and, and_false, decide_eq_true_eq, not_true, not_false_iff, Bool.false_eq_true, Bool.true_eq_false, m_its, c1, mrd, eu, m_last, e2]
theorem q_violations (hg : hG B (Γ 10) (hm M)) (hB : B < 900000000) : ∃ v, fX_violations Γ = some v ∧ fM_violations M = some (v, wmF M 0 0) := by
  obtain ⟨hr, h, -⟩ := hg
  have h1 := h.1.2.1
  have h2 := h.1.2.2.1
  have h4 := h.1.2.2.2
  -- labels, side by side, from any count
  have lab : ∀ c : Int, ∃ n : Int, fG_countWrongLabels (Γ 10) = some (hI n) ∧ iter (fun s => fM_violations_b99 M s.1 s.2) fu (hI c, hI 0) = some (hI (c + n), wmF M 0 0) := by
    intro c
    have key : ∃ r1 r2, iter (fun s => fG_countWrongLabels_b4 (Γ 10) s.1 s.2) fu (hI 0, hI 0) = some r1 ∧ iter (fun s => fM_violations_b99 M s.1 s.2) fu (hI c, hI 0) = some r2 ∧ ∃ n : Int, r1 = hI n ∧ r2 = (hI (c + n), wmF M 0 0) := by
      refine it_two (hm M 2).toNat (fun i s1 s2 => ∃ n : Int, 0 ≤ n ∧ n ≤ i ∧ s1 = (hI n, hI i) ∧ s2 = (hI (c + n), hI i)) _ (by omega) ⟨0, by omega, by omega, rfl, by rw [Int.add_zero]; rfl⟩ ?_
      rintro i s1 s2 hi ⟨n, n1, n2, rfl, rfl⟩
      have hi2 : i ≤ (hm M 2).toNat := hi
      unfold fG_countWrongLabels_b4 fM_violations_b99
      dsimp only
      by_cases ci : (i : Int) < hm M 2
      · have hl := h.2.2.2.2.1 i (by omega) ci
        unfold hVl at hl
        obtain ⟨t, e1, e2⟩ := t_xL (v := n) (k := (i : Int)) hr h (by omega) ci (by omega) (by omega)
        have e3 : fM_truth t = hI (if t = true then 1 else 0) := by cases t <;> rfl
        simp (disch := omega) only [↓reduceIte, Int.reduceEq, Int.reduceLT, bnd_s, bnd2_s, bnd3_s, hI_lit, hL_lit, hI_add, hI_sub, hI_mul, hI_neg, hI_lt, hI_eq, if_true, if_false, eq_self_iff_true, true_and, and_true, false_and, and_false, decide_eq_true_eq, not_true, not_false_iff, Bool.false_eq_true, Bool.true_eq_false, r_labels hr, m_2, ci, rix_hI, r_l0 hr (show (0 : Int) ≤ i by omega) ci, r_hem hr, e2, e3]
        refine Or.inl ⟨by omega, _, _, e1, rfl, n + (if t = true then 1 else 0), ?_, ?_, rfl, ?_⟩
        · split <;> omega
        · split <;> omega
        · rw [Int.add_assoc]; rfl
      · simp (disch := omega) only [↓reduceIte, Int.reduceEq, Int.reduceLT, bnd_s, bnd2_s, bnd3_s, hI_lit, hL_lit, hI_add, hI_sub, hI_mul, hI_neg, hI_lt, hI_eq, if_true, if_false, eq_self_iff_true, true_and, and_true, false_and, and_false, decide_eq_true_eq, not_true, not_false_iff, Bool.false_eq_true, Bool.true_eq_false, r_labels hr, m_2, ci, told_e]
        exact Or.inr ⟨_, _, rfl, rfl, n, rfl, rfl⟩
    obtain ⟨r1, r2, q1, q2, n, rfl, rfl⟩ := key
    exact ⟨n, q1, q2⟩
  -- bands
  have ban : ∀ c : Int, ∃ n : Int, fG_countWrongLabels (Γ 10) = some (hI n) ∧ iter (fun s => fM_violations_b55 M s.1 s.2) fu (hI c, hI 0) = some (hI (c + sm (fun b => wB (hm M) b + wH (hm M) b) 9 + n), wmF M 0 0) := by
    intro c
    have key : ∃ r, iter (fun s => fM_violations_b55 M s.1 s.2) fu (hI c, hI 0) = some r ∧ ∃ n : Int, fG_countWrongLabels (Γ 10) = some (hI n) ∧ r = (hI (c + sm (fun b => wB (hm M) b + wH (hm M) b) 9 + n), wmF M 0 0) := by
      refine it_one 9 (fun i s => s = (hI (c + sm (fun b => wB (hm M) b + wH (hm M) b) i), hI i)) _ (by omega) (by show (hI c, hI 0) = (hI (c + 0), hI 0); rw [Int.add_zero]) ?_
      rintro i s hi rfl
      have hi2 : i ≤ 9 := hi
      unfold fM_violations_b55
      dsimp only
      by_cases ci : (i : Int) < 9
      · have k1 : (0 : Int) ≤ i := by omega
        have hq := h.2.1 i k1 ci
        have hl := lh_r (b := (i : Int)) (m := hm M (5 + (i : Int))) h (by omega) (by omega) (by omega)
        have g := m_ld (b := (i : Int)) (m := hm M (5 + (i : Int))) h (by omega) k1 ci (by omega) (by omega)
        have f1 := fM_fl (a := hm M (5 + (i : Int))) (d := 15) (Or.inl rfl) (by omega) (by omega)
        have f2 := fM_fl (a := hm M 4 + hm M (5 + (i : Int)) / 15) (d := 24) (Or.inr rfl) (by omega) (by omega)
        have eb : fM_isStrangeBand M (hI i) = some (decide (¬ lh (hm M) i (hm M (5 + (i : Int))) / 24 = (hm M 4 + hm M (5 + (i : Int)) / 15) / 24 - 1)) := by
          unfold fM_isStrangeBand
          by_cases c1 : lh (hm M) i (hm M (5 + (i : Int))) / 24 = (hm M 4 + hm M (5 + (i : Int)) / 15) / 24 - 1
          · simp (disch := omega) only [↓reduceIte, Int.reduceEq, Int.reduceLT, bnd_s, bnd2_s, bnd3_s, hI_lit, hL_lit, hI_add, hI_sub, hI_mul, hI_neg, hI_lt, hI_eq, if_true, if_false, eq_self_iff_true, true_and, and_true, false_and, and_false, decide_eq_true_eq, not_true, not_false_iff, Bool.false_eq_true, Bool.true_eq_false, mrd, m_4, f1, f2, g, c1, decide_false]
          · simp (disch := omega) only [↓reduceIte, Int.reduceEq, Int.reduceLT, bnd_s, bnd2_s, bnd3_s, hI_lit, hL_lit, hI_add, hI_sub, hI_mul, hI_neg, hI_lt, hI_eq, if_true, if_false, eq_self_iff_true, true_and, and_true, false_and, and_false, decide_eq_true_eq, not_true, not_false_iff, Bool.false_eq_true, Bool.true_eq_false, mrd, m_4, f1, f2, g, c1, decide_true]
        have ef := m_far (b := (i : Int) + 1) (m := hm M (5 + (i : Int))) h (by omega) (by omega) (by omega) (by omega)
        have e1 : (if ¬ lh (hm M) i (hm M (5 + (i : Int))) / 24 = (hm M 4 + hm M (5 + (i : Int)) / 15) / 24 - 1 then (1 : Int) else 0) = wB (hm M) i := by
          unfold wB
          by_cases c1 : lh (hm M) i (hm M (5 + (i : Int))) / 24 = (hm M 4 + hm M (5 + (i : Int)) / 15) / 24 - 1
          · rw [if_neg (fun z => z c1), if_pos c1]
          · rw [if_pos c1, if_neg c1]
        rw [show (9 : Int32) = hI 9 from rfl, ilt (by omega) (by omega) (by omega) (by omega), if_pos ci, eb, bnd_s, show (5 : Int32) = hI 5 from rfl, hI_add, mrd (by omega) (by omega), bnd_s, show (1 : Int32) = hI 1 from rfl, hI_add, ef, bnd_s, tr_d, tr_d, e1, hI_add, hI_add]
        refine Or.inl ⟨by omega, _, rfl, ?_⟩
        show (hI (c + sm (fun b => wB (hm M) b + wH (hm M) b) i + (wB (hm M) i + wH (hm M) i)), _) = (hI (c + (sm (fun b => wB (hm M) b + wH (hm M) b) i + (wB (hm M) i + wH (hm M) i))), _)
        rw [Int.add_assoc]; rfl
      · have e9 : i = 9 := by omega
        subst e9
        obtain ⟨n, q1, q2⟩ := lab (c + sm (fun b => wB (hm M) b + wH (hm M) b) 9)
        rw [show (9 : Int32) = hI 9 from rfl, ilt (by omega) (by omega) (by omega) (by omega), if_neg (by omega), show (0 : Int32) = hI 0 from rfl, q2, Option.map_some]
        exact Or.inr ⟨_, rfl, n, q1, rfl⟩
    obtain ⟨r, q, n, q1, rfl⟩ := key
    exact ⟨n, q1, q⟩
  -- spots
  have spo : ∃ n : Int, fG_countWrongLabels (Γ 10) = some (hI n) ∧ iter (fun s => fM_violations_b4 M s.1 s.2) fu (hI 0, hI 0) = some (hI (sm (wD (hm M)) (hm M 1).toNat + sm (fun b => wB (hm M) b + wH (hm M) b) 9 + n), wmF M 0 0) := by
    have key : ∃ r, iter (fun s => fM_violations_b4 M s.1 s.2) fu (hI 0, hI 0) = some r ∧ ∃ n : Int, fG_countWrongLabels (Γ 10) = some (hI n) ∧ r = (hI (sm (wD (hm M)) (hm M 1).toNat + sm (fun b => wB (hm M) b + wH (hm M) b) 9 + n), wmF M 0 0) := by
      refine it_one (hm M 1).toNat (fun i s => s = (hI (sm (wD (hm M)) i), hI i)) _ (by omega) rfl ?_
      rintro i s hi rfl
      have hi2 : i ≤ (hm M 1).toNat := hi
      unfold fM_violations_b4
      dsimp only
      by_cases ci : (i : Int) < hm M 1
      · have k1 : (0 : Int) ≤ i := by omega
        have e : ∀ c : Int, (if hI i < hI (hm M 1) then bnd (fM_travels M (hI i)) fun v3 => if v3 = true then bnd (fM_of M (hI i) 5) fun v5 => bnd (fM_dayNow M (hI i)) fun v7 => if v5 = v7 then fM_violations_j41 M (hI i) (hI c) else fM_violations_j42 M (hI i) true (hI c) else fM_violations_j41 M (hI i) (hI c) else none) = some (.inl (hI (c + wD (hm M) i), hI ((i : Int) + 1))) := by
          intro c
          unfold wD fM_violations_j41 fM_violations_j42
          by_cases c1 : hm M (38 + 9 * (i : Int) + 2) = 1
          · by_cases c2 : hI (hm M (38 + 9 * (i : Int) + 5)) = hI (lh (hm M) (hm M (38 + 9 * (i : Int) + 3)) (hm M (38 + 9 * (i : Int) + 4)) / 24)
            · simp (disch := omega) only [bnd_s, ↓reduceIte, hI_lit, hI_add, hI_lt, decide_true, ci, m_trav, m_of, m_dayn h (show B < 1000000000 by omega) k1 ci, c1, c2, Int.add_zero, tr_f]
            · simp (disch := omega) only [bnd_s, ↓reduceIte, hI_lit, hI_add, hI_lt, decide_true, ci, m_trav, m_of, m_dayn h (show B < 1000000000 by omega) k1 ci, c1, c2, tr_t]
          · simp (disch := omega) only [↓reduceIte, Int.reduceEq, Int.reduceLT, bnd_s, bnd2_s, bnd3_s, hI_lit, hL_lit, hI_add, hI_sub, hI_mul, hI_neg, hI_lt, hI_eq, if_true, if_false, eq_self_iff_true, true_and, and_true, false_and, and_false, decide_eq_true_eq, not_true, not_false_iff, Bool.false_eq_true, Bool.true_eq_false, ci, m_trav, c1, decide_false, Int.add_zero, tr_f]
        have e' := e (sm (wD (hm M)) i)
        rw [ilt (by omega) (by omega) (by omega) (by omega), if_pos ci] at e'
        rw [m_1, ilt (by omega) (by omega) (by omega) (by omega), if_pos ci, e']
        exact Or.inl ⟨by omega, _, rfl, rfl⟩
      · have e9 : i = (hm M 1).toNat := by omega
        obtain ⟨n, q1, q2⟩ := ban (sm (wD (hm M)) i)
        rw [m_1, ilt (by omega) (by omega) (by omega) (by omega), if_neg ci, show (0 : Int32) = hI 0 from rfl, q2, Option.map_some]
        exact Or.inr ⟨_, rfl, n, q1, by rw [e9]; rfl⟩
    obtain ⟨r, q, n, q1, rfl⟩ := key
    exact ⟨n, q1, q⟩
  obtain ⟨n, q1, q2⟩ := spo
  refine ⟨hI (sm (wD (hm M)) (hm M 1).toNat + sm (fun b => wB (hm M) b + wH (hm M) b) 9 + n), ?_, q2⟩
  unfold fX_violations
  rw [g_wD hr h hB, bnd_s, g_wB hr h hB, bnd_s, q1, bnd_s, g_wH hr h, bnd_s, hI_add, hI_add, hI_add, sm_add]
  congr 2
  omega
end HHT

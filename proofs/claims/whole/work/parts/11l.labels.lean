/-! LABELS: who meets, what hinders, one more -/
section HHL
variable {σ τ : Int → Int} {M M1 M2 : zM} {G Go : zG} {z v w k B b m d f : Int} {l : List Int} {I : zI}
def mt (σ : Int → Int) (k b lo hi : Int) : Prop := σ (128 + 4 * k + 3) = 0 ∧ σ (128 + 4 * k + 0) = b ∧ σ (128 + 4 * k + 1) ≤ hi ∧ lo ≤ σ (128 + 4 * k + 1) + σ (128 + 4 * k + 2) - 1
/-- the first that meets, or none -/
def fst (σ : Int → Int) (b lo hi x : Int) : Prop := (0 ≤ x ∧ x < σ 2 ∧ mt σ x b lo hi ∧ ∀ j, 0 ≤ j → j < x → ¬ mt σ j b lo hi) ∨ (x = -1 ∧ ∀ j, 0 ≤ j → j < σ 2 → ¬ mt σ j b lo hi)
theorem fst_u {lo hi x y : Int} (h1 : fst σ b lo hi x) (h2 : fst σ b lo hi y) : x = y := by
  rcases h1 with ⟨a1, a2, a3, a4⟩ | ⟨a1, a2⟩ <;> rcases h2 with ⟨b1, b2, b3, b4⟩ | ⟨b1, b2⟩
  · rcases Int.lt_trichotomy x y with c | c | c
    · exact absurd a3 (b4 x a1 c)
    · exact c
    · exact absurd b3 (a4 y b1 c)
  · exact absurd a3 (b2 x a1 a2)
  · exact absurd b3 (a2 y b1 b2)
  · omega
theorem g_meets {lo hi : Int} (hr : hR G σ) (h : hV B σ) (k1 : 0 ≤ k) (k2 : k < σ 2) (b1 : 0 ≤ b) (b2 : b < 9) (l1 : -1000 ≤ lo) (l2 : lo < 1000) (h1 : -1000 ≤ hi) (h2 : hi < 1000) : ∃ t, fL_meets G k.toNat (hI b) (hI lo) (hI hi) = t ∧ (t = true ↔ mt σ k b lo hi) := by
  have hl := h.2.2.2.2.1 k k1 k2
  unfold hVl at hl
  unfold fL_meets mt
  rw [r_lt hr k1 k2, r_l0 hr k1 k2, r_l1 hr k1 k2, r_l2 hr k1 k2, ieq (by omega) (by omega) (by omega) (by omega), ilt (by omega) (by omega) (by omega) (by omega), ilt (by omega) (by omega) (by omega) (by omega)]
  by_cases c1 : σ (128 + 4 * k + 3) = 1
  · rw [decide_eq_true c1, if_pos rfl]
    exact ⟨false, rfl, ⟨fun z => Bool.noConfusion z, fun z => by omega⟩⟩
  · rw [decide_eq_false c1, if_neg (show ¬ (false = true) by decide)]
    by_cases c2 : σ (128 + 4 * k + 0) = b
    · rw [if_pos c2]
      by_cases c3 : hi < σ (128 + 4 * k + 1)
      · rw [if_pos c3]
        exact ⟨false, rfl, ⟨fun z => Bool.noConfusion z, fun z => by omega⟩⟩
      · rw [if_neg c3]
        by_cases c4 : σ (128 + 4 * k + 1) + σ (128 + 4 * k + 2) - 1 < lo
        · rw [if_pos c4]
          exact ⟨false, rfl, ⟨fun z => Bool.noConfusion z, fun z => by omega⟩⟩
        · rw [if_neg c4]
          exact ⟨true, rfl, ⟨fun _ => by omega, fun _ => rfl⟩⟩
    · rw [if_neg c2]
      exact ⟨false, rfl, ⟨fun z => Bool.noConfusion z, fun z => absurd z.2.1 c2⟩⟩
theorem g_meeting {lo hi : Int} (hr : hR G σ) (h : hV B σ) (b1 : 0 ≤ b) (b2 : b < 9) (l1 : -1000 ≤ lo) (l2 : lo < 1000) (h1 : -1000 ≤ hi) (h2 : hi < 1000) : ∃ x : Int, fG_labelMeeting G (hI b) (hI lo) (hI hi) = some (hI x) ∧ fst σ b lo hi x := by
  have hc := h.1.2.2.1
  have key : ∃ r, iter (fun s => fG_labelMeeting_b3 G (hI b) (hI lo) (hI hi) s) fu (hI 0) = some r ∧ ∃ x : Int, r = hI x ∧ fst σ b lo hi x := by
    refine it_one (σ 2).toNat (fun i s => s = hI i ∧ ∀ j : Int, 0 ≤ j → j < i → ¬ mt σ j b lo hi) _ (by omega) ⟨rfl, fun j a b => by omega⟩ ?_
    rintro i s hi0 ⟨rfl, hP⟩
    unfold fG_labelMeeting_b3
    by_cases c : (i : Int) < σ 2
    · obtain ⟨t, e, ht⟩ := g_meets (k := i) hr h (by omega) c b1 b2 l1 l2 h1 h2
      cases t with
      | true =>
        simp (disch := omega) only [↓reduceIte, Int.reduceEq, Int.reduceLT, bnd_s, bnd2_s, bnd3_s, hI_lit, hL_lit, hI_add, hI_sub, hI_mul, hI_neg, hI_lt, hI_eq, if_true, if_false, eq_self_iff_true, true_and, and_true, false_and, and_false, decide_eq_true_eq, not_true, not_false_iff, Bool.false_eq_true, Bool.true_eq_false, r_labels hr, c, rix_hI, e]
        exact Or.inr ⟨_, rfl, i, rfl, Or.inl ⟨by omega, c, ht.mp rfl, hP⟩⟩
      | false =>
        simp (disch := omega) only [↓reduceIte, Int.reduceEq, Int.reduceLT, bnd_s, bnd2_s, bnd3_s, hI_lit, hL_lit, hI_add, hI_sub, hI_mul, hI_neg, hI_lt, hI_eq, if_true, if_false, eq_self_iff_true, true_and, and_true, false_and, and_false, decide_eq_true_eq, not_true, not_false_iff, Bool.false_eq_true, Bool.true_eq_false, r_labels hr, c, rix_hI, e]
        refine Or.inl ⟨by omega, _, rfl, rfl, fun j j1 j2 => ?_⟩
        by_cases e2 : j = i
        · subst e2; exact fun z => Bool.noConfusion (ht.mpr z)
        · exact hP j j1 (by omega)
    · simp (disch := omega) only [↓reduceIte, Int.reduceEq, Int.reduceLT, bnd_s, bnd2_s, bnd3_s, hI_lit, hL_lit, hI_add, hI_sub, hI_mul, hI_neg, hI_lt, hI_eq, if_true, if_false, eq_self_iff_true, true_and, and_true, false_and, and_false, decide_eq_true_eq, not_true, not_false_iff, Bool.false_eq_true, Bool.true_eq_false, r_labels hr, c]
      exact Or.inr ⟨_, rfl, -1, rfl, Or.inr ⟨rfl, fun j j1 j2 => hP j j1 (by omega)⟩⟩
  obtain ⟨r, q, x, rfl, hx⟩ := key
  exact ⟨x, q, hx⟩
theorem m_there (h : hV B (hm M)) (k1 : 0 ≤ k) (k2 : k < hm M 2) (b1 : 0 ≤ b) (b2 : b < 9) : ∃ t, fM_isThere M (hI k) (hI b) = some t ∧ (t = true ↔ (hm M (128 + 4 * k + 3) = 0 ∧ hm M (128 + 4 * k + 0) = b)) := by
  have hl := h.2.2.2.2.1 k k1 k2
  have hc := h.1.2.2.1
  unfold hVl at hl
  unfold fM_isThere
  by_cases c1 : hm M (128 + 4 * k + 3) = 0
  · by_cases c2 : hm M (128 + 4 * k + 0) = b
    · simp (disch := omega) only [↓reduceIte, Int.reduceEq, Int.reduceLT, bnd_s, bnd2_s, bnd3_s, hI_lit, hL_lit, hI_add, hI_sub, hI_mul, hI_neg, hI_lt, hI_eq, if_true, if_false, eq_self_iff_true, true_and, and_true, false_and, and_false, decide_eq_true_eq, not_true, not_false_iff, Bool.false_eq_true, Bool.true_eq_false, m_its, c1, c2]
      exact ⟨true, rfl, ⟨fun _ => trivial, fun _ => rfl⟩⟩
    · simp (disch := omega) only [↓reduceIte, Int.reduceEq, Int.reduceLT, bnd_s, bnd2_s, bnd3_s, hI_lit, hL_lit, hI_add, hI_sub, hI_mul, hI_neg, hI_lt, hI_eq, if_true, if_false, eq_self_iff_true, true_and, and_true, false_and, and_false, decide_eq_true_eq, not_true, not_false_iff, Bool.false_eq_true, Bool.true_eq_false, m_its, c1, c2]
      exact ⟨false, rfl, ⟨fun z => Bool.noConfusion z, fun z => z.elim⟩⟩
  · simp (disch := omega) only [↓reduceIte, Int.reduceEq, Int.reduceLT, bnd_s, bnd2_s, bnd3_s, hI_lit, hL_lit, hI_add, hI_sub, hI_mul, hI_neg, hI_lt, hI_eq, if_true, if_false, eq_self_iff_true, true_and, and_true, false_and, and_false, decide_eq_true_eq, not_true, not_false_iff, Bool.false_eq_true, Bool.true_eq_false, m_its, c1]
    exact ⟨false, rfl, ⟨fun z => Bool.noConfusion z, fun z => z.elim⟩⟩
theorem m_on (h : hV B (hm M)) (b1 : 0 ≤ b) (b2 : b < 9) (l1 : -1000 ≤ m) (l2 : m < 1000) : ∃ x : Int, fM_labelOn M (hI b) (hI m) = some (hI x) ∧ fst (hm M) b m m x := by
  have hc := h.1.2.2.1
  have key : ∃ r, iter (fun s => fM_labelOn_b2 M (hI b) (hI m) s) fu (hI 0) = some r ∧ ∃ x : Int, r = hI x ∧ fst (hm M) b m m x := by
    refine it_one (hm M 2).toNat (fun i s => s = hI i ∧ ∀ j : Int, 0 ≤ j → j < i → ¬ mt (hm M) j b m m) _ (by omega) ⟨rfl, fun j a b => by omega⟩ ?_
    rintro i s hi0 ⟨rfl, hP⟩
    unfold fM_labelOn_b2 fM_covers
    by_cases c : (i : Int) < hm M 2
    · have hl := h.2.2.2.2.1 i (by omega) c
      unfold hVl at hl
      obtain ⟨t, e, ht⟩ := m_there (k := i) h (by omega) c b1 b2
      have no : ∀ s1 : Option (Int32 ⊕ Int32), s1 = some (.inl (hI ((i : Int) + 1))) → ¬ mt (hm M) i b m m → (i < (hm M 2).toNat ∧ ∃ s', s1 = some (.inl s') ∧ (s' = hI ((i + 1 : Nat) : Int) ∧ ∀ j : Int, 0 ≤ j → j < ((i + 1 : Nat) : Int) → ¬ mt (hm M) j b m m)) ∨ (∃ r, s1 = some (.inr r) ∧ ∃ x : Int, r = hI x ∧ fst (hm M) b m m x) := by
        intro s1 hs hn
        refine Or.inl ⟨by omega, _, hs, rfl, fun j j1 j2 => ?_⟩
        by_cases e2 : j = i
        · subst e2; exact hn
        · exact hP j j1 (by omega)
      cases t with
      | true =>
        have ht2 := ht.mp rfl
        by_cases c2 : hm M (128 + 4 * (i : Int) + 1) ≤ m ∧ m ≤ hm M (128 + 4 * (i : Int) + 1) + hm M (128 + 4 * (i : Int) + 2) - 1
        · simp (disch := omega) only [↓reduceIte, Int.reduceEq, Int.reduceLT, bnd_s, bnd2_s, bnd3_s, hI_lit, hL_lit, hI_add, hI_sub, hI_mul, hI_neg, hI_lt, hI_eq, if_true, if_false, eq_self_iff_true, true_and, and_true, false_and, and_false, decide_eq_true_eq, not_true, not_false_iff, Bool.false_eq_true, Bool.true_eq_false, m_2, c, e, m_its, m_last, isIn_d, c2, decide_true]
          exact Or.inr ⟨_, rfl, i, rfl, Or.inl ⟨by omega, c, ⟨ht2.1, ht2.2, c2.1, c2.2⟩, hP⟩⟩
        · apply no
          · simp (disch := omega) only [↓reduceIte, Int.reduceEq, Int.reduceLT, bnd_s, bnd2_s, bnd3_s, hI_lit, hL_lit, hI_add, hI_sub, hI_mul, hI_neg, hI_lt, hI_eq, if_true, if_false, eq_self_iff_true, true_and, and_true, false_and, and_false, decide_eq_true_eq, not_true, not_false_iff, Bool.false_eq_true, Bool.true_eq_false, m_2, c, e, m_its, m_last, isIn_d, c2, decide_false]
          · exact fun z => c2 ⟨z.2.2.1, z.2.2.2⟩
      | false =>
        apply no
        · simp (disch := omega) only [↓reduceIte, Int.reduceEq, Int.reduceLT, bnd_s, bnd2_s, bnd3_s, hI_lit, hL_lit, hI_add, hI_sub, hI_mul, hI_neg, hI_lt, hI_eq, if_true, if_false, eq_self_iff_true, true_and, and_true, false_and, and_false, decide_eq_true_eq, not_true, not_false_iff, Bool.false_eq_true, Bool.true_eq_false, m_2, c, e]
        · exact fun z => Bool.noConfusion (ht.mpr ⟨z.1, z.2.1⟩)
    · simp (disch := omega) only [↓reduceIte, Int.reduceEq, Int.reduceLT, bnd_s, bnd2_s, bnd3_s, hI_lit, hL_lit, hI_add, hI_sub, hI_mul, hI_neg, hI_lt, hI_eq, if_true, if_false, eq_self_iff_true, true_and, and_true, false_and, and_false, decide_eq_true_eq, not_true, not_false_iff, Bool.false_eq_true, Bool.true_eq_false, m_2, c]
      exact Or.inr ⟨_, rfl, -1, rfl, Or.inr ⟨rfl, fun j j1 j2 => hP j j1 (by omega)⟩⟩
  obtain ⟨r, q, x, rfl, hx⟩ := key
  exact ⟨x, q, hx⟩
theorem t_on (hr : hR G (hm M)) (h : hV B (hm M)) (b1 : 0 ≤ b) (b2 : b < 9) (l1 : -1000 ≤ m) (l2 : m < 1000) : ∃ x : Int, fG_labelMeeting G (hI b) (hI m) (hI m) = some (hI x) ∧ fM_labelOn M (hI b) (hI m) = some (hI x) ∧ fst (hm M) b m m x := by
  obtain ⟨x, e1, hx⟩ := g_meeting hr h b1 b2 l1 l2 l1 l2
  obtain ⟨y, e2, hy⟩ := m_on h b1 b2 l1 l2
  have := fst_u hx hy
  subst this
  exact ⟨x, e1, e2, hx⟩
theorem m_free {lo hi : Int} (h : hV B (hm M)) (b1 : 0 ≤ b) (b2 : b < 9) (l1 : -1000 ≤ lo) (l2 : lo < 1000) (h1 : -1000 ≤ hi) (h2 : hi < 1000) : ∃ t, fM_isFree M (hI b) (hI lo) (hI hi) = some t ∧ (t = true ↔ ∀ j, 0 ≤ j → j < hm M 2 → ¬ mt (hm M) j b lo hi) := by
  have hc := h.1.2.2.1
  have key : ∃ r, iter (fun s => fM_isFree_b3 M (hI b) (hI lo) (hI hi) s) fu (hI 0) = some r ∧ (r = true ↔ ∀ j, 0 ≤ j → j < hm M 2 → ¬ mt (hm M) j b lo hi) := by
    refine it_one (hm M 2).toNat (fun i s => s = hI i ∧ ∀ j : Int, 0 ≤ j → j < i → ¬ mt (hm M) j b lo hi) _ (by omega) ⟨rfl, fun j a b => by omega⟩ ?_
    rintro i s hi0 ⟨rfl, hP⟩
    unfold fM_isFree_b3
    by_cases c : (i : Int) < hm M 2
    · have hl := h.2.2.2.2.1 i (by omega) c
      unfold hVl at hl
      obtain ⟨t, e, ht⟩ := m_there (k := i) h (by omega) c b1 b2
      have no : ∀ s1 : Option (Int32 ⊕ Bool), s1 = some (.inl (hI ((i : Int) + 1))) → ¬ mt (hm M) i b lo hi → (i < (hm M 2).toNat ∧ ∃ s', s1 = some (.inl s') ∧ (s' = hI ((i + 1 : Nat) : Int) ∧ ∀ j : Int, 0 ≤ j → j < ((i + 1 : Nat) : Int) → ¬ mt (hm M) j b lo hi)) ∨ (∃ r, s1 = some (.inr r) ∧ (r = true ↔ ∀ j, 0 ≤ j → j < hm M 2 → ¬ mt (hm M) j b lo hi)) := by
        intro s1 hs hn
        refine Or.inl ⟨by omega, _, hs, rfl, fun j j1 j2 => ?_⟩
        by_cases e2 : j = i
        · subst e2; exact hn
        · exact hP j j1 (by omega)
      cases t with
      | true =>
        have ht2 := ht.mp rfl
        by_cases c2 : hi < hm M (128 + 4 * (i : Int) + 1)
        · apply no
          · simp (disch := omega) only [↓reduceIte, Int.reduceEq, Int.reduceLT, bnd_s, bnd2_s, bnd3_s, hI_lit, hL_lit, hI_add, hI_sub, hI_mul, hI_neg, hI_lt, hI_eq, if_true, if_false, eq_self_iff_true, true_and, and_true, false_and, and_false, decide_eq_true_eq, not_true, not_false_iff, Bool.false_eq_true, Bool.true_eq_false, m_2, c, e, m_its, c2]
          · exact fun z => by have := z.2.2.1; omega
        · by_cases c3 : hm M (128 + 4 * (i : Int) + 1) + hm M (128 + 4 * (i : Int) + 2) - 1 < lo
          · apply no
            · simp (disch := omega) only [↓reduceIte, Int.reduceEq, Int.reduceLT, bnd_s, bnd2_s, bnd3_s, hI_lit, hL_lit, hI_add, hI_sub, hI_mul, hI_neg, hI_lt, hI_eq, if_true, if_false, eq_self_iff_true, true_and, and_true, false_and, and_false, decide_eq_true_eq, not_true, not_false_iff, Bool.false_eq_true, Bool.true_eq_false, m_2, c, e, m_its, m_last, c2, c3]
            · exact fun z => by have := z.2.2.2; omega
          · simp (disch := omega) only [↓reduceIte, Int.reduceEq, Int.reduceLT, bnd_s, bnd2_s, bnd3_s, hI_lit, hL_lit, hI_add, hI_sub, hI_mul, hI_neg, hI_lt, hI_eq, if_true, if_false, eq_self_iff_true, true_and, and_true, false_and, and_false, decide_eq_true_eq, not_true, not_false_iff, Bool.false_eq_true, Bool.true_eq_false, m_2, c, e, m_its, m_last, c2, c3]
            exact Or.inr ⟨_, rfl, ⟨fun z => Bool.noConfusion z, fun z => absurd (show mt (hm M) i b lo hi from ⟨ht2.1, ht2.2, by omega, by omega⟩) (z i (by omega) c)⟩⟩
      | false =>
        apply no
        · simp (disch := omega) only [↓reduceIte, Int.reduceEq, Int.reduceLT, bnd_s, bnd2_s, bnd3_s, hI_lit, hL_lit, hI_add, hI_sub, hI_mul, hI_neg, hI_lt, hI_eq, if_true, if_false, eq_self_iff_true, true_and, and_true, false_and, and_false, decide_eq_true_eq, not_true, not_false_iff, Bool.false_eq_true, Bool.true_eq_false, m_2, c, e]
        · exact fun z => Bool.noConfusion (ht.mpr ⟨z.1, z.2.1⟩)
    · simp (disch := omega) only [↓reduceIte, Int.reduceEq, Int.reduceLT, bnd_s, bnd2_s, bnd3_s, hI_lit, hL_lit, hI_add, hI_sub, hI_mul, hI_neg, hI_lt, hI_eq, if_true, if_false, eq_self_iff_true, true_and, and_true, false_and, and_false, decide_eq_true_eq, not_true, not_false_iff, Bool.false_eq_true, Bool.true_eq_false, m_2, c]
      exact Or.inr ⟨_, rfl, ⟨fun _ j j1 j2 => hP j j1 (by omega), fun _ => rfl⟩⟩
  exact key
/-- how long -/
def lg (n b : Int) : Int := n * (3 + gp b 4)
theorem lg_r {n : Int} (n1 : 1 ≤ n) (n2 : n ≤ 8) (b1 : 0 ≤ b) (b2 : b < 9) : 3 ≤ lg n b ∧ lg n b ≤ 56 := by
  have hg : 0 ≤ gp b 4 ∧ gp b 4 ≤ 4 := by unfold gp; split <;> omega
  unfold lg
  have h1 : 1 * (3 + gp b 4) ≤ n * (3 + gp b 4) := Int.mul_le_mul_of_nonneg_right (by omega) (by omega)
  have h2 : n * (3 + gp b 4) ≤ 8 * (3 + gp b 4) := Int.mul_le_mul_of_nonneg_right (by omega) (by omega)
  omega
theorem g_lastOf {n : Int} (b1 : 0 ≤ b) (b2 : b < 9) : fG_lastOf (hI n) (hI b) (hI f) = hI (f + lg n b - 1) := by
  unfold fG_lastOf lg
  rw [show (4 : Int32) = hI 4 from rfl, abs_I (by omega) (by omega) (by omega) (by omega), show (3 : Int32) = hI 3 from rfl, show (1 : Int32) = hI 1 from rfl, hI_add, hI_mul, hI_add, hI_sub]
  rfl
theorem m_longBy {n : Int} (b1 : 0 ≤ b) (b2 : b < 9) : fM_longBy (hI n) (hI b) = hI (lg n b) := by
  unfold fM_longBy lg
  rw [show (4 : Int32) = hI 4 from rfl, gap_I (by omega) (by omega) (by omega) (by omega), show (3 : Int32) = hI 3 from rfl, hI_add, hI_mul]
  rfl
theorem t_crossTorn {f la : Int} (hr : hR G (hm M)) (h : hV B (hm M)) (f1 : 0 ≤ f) (f2 : f ≤ la) (la2 : la < 1000) : ∃ t : Bool, fG_labelHindrance_j61 G (hI f) (hI la) = some (hI (if t = true then 5 else 0)) ∧ fM_wouldCrossTorn M (hI f) (hI la) = some t := by
  have key : ∃ r1 r2, iter (fun s => fG_labelHindrance_b66 G (hI la) s) fu (hI (f + 1)) = some r1 ∧ iter (fun s => fM_wouldCrossTorn_b4 M (hI la) s) fu (hI (f + 1)) = some r2 ∧ r1 = hI (if r2 = true then 5 else 0) := by
    refine it_two (la - f).toNat (fun i s1 s2 => s1 = hI (f + 1 + i) ∧ s2 = hI (f + 1 + i)) _ (by omega) ⟨by congr 1; omega, by congr 1; omega⟩ ?_
    rintro i s1 s2 hi ⟨rfl, rfl⟩
    unfold fG_labelHindrance_b66 fM_wouldCrossTorn_b4
    by_cases c : la < f + 1 + i
    · simp (disch := omega) only [↓reduceIte, Int.reduceEq, Int.reduceLT, bnd_s, bnd2_s, bnd3_s, hI_lit, hL_lit, hI_add, hI_sub, hI_mul, hI_neg, hI_lt, hI_eq, if_true, if_false, eq_self_iff_true, true_and, and_true, false_and, and_false, decide_eq_true_eq, not_true, not_false_iff, Bool.false_eq_true, Bool.true_eq_false, c]
      exact Or.inr ⟨_, _, rfl, rfl, by rw [if_neg (by decide)]⟩
    · obtain ⟨t, e1, e2, -⟩ := t_tornAt (m := f + 1 + i) hr h (by omega) (by omega)
      cases t with
      | true =>
        simp (disch := omega) only [↓reduceIte, Int.reduceEq, Int.reduceLT, bnd_s, bnd2_s, bnd3_s, hI_lit, hL_lit, hI_add, hI_sub, hI_mul, hI_neg, hI_lt, hI_eq, if_true, if_false, eq_self_iff_true, true_and, and_true, false_and, and_false, decide_eq_true_eq, not_true, not_false_iff, Bool.false_eq_true, Bool.true_eq_false, c, e1, e2]
        exact Or.inr ⟨_, _, rfl, rfl, by rw [if_pos rfl]⟩
      | false =>
        simp (disch := omega) only [↓reduceIte, Int.reduceEq, Int.reduceLT, bnd_s, bnd2_s, bnd3_s, hI_lit, hL_lit, hI_add, hI_sub, hI_mul, hI_neg, hI_lt, hI_eq, if_true, if_false, eq_self_iff_true, true_and, and_true, false_and, and_false, decide_eq_true_eq, not_true, not_false_iff, Bool.false_eq_true, Bool.true_eq_false, c, e1, e2]
        exact Or.inl ⟨by omega, _, _, rfl, rfl, by congr 1; omega, by congr 1; omega⟩
  obtain ⟨r1, r2, q1, q2, q3⟩ := key
  refine ⟨r2, ?_, ?_⟩
  · unfold fG_labelHindrance_j61
    rw [show (1 : Int32) = hI 1 from rfl, hI_add, ← q3]; exact q1
  · unfold fM_wouldCrossTorn
    rw [show (1 : Int32) = hI 1 from rfl, hI_add]; exact q2
theorem t_labelWhy0 (b1 : 0 ≤ b) (b2 : b < 9) : fG_labelHindrance G (hI 0) (hI b) (hI f) = some (hI 1) ∧ fM_labelWhy M (hL 0) (hI b) (hI f) = some (hI 1) := by
  constructor
  · unfold fG_labelHindrance
    rw [show (0 : Int32) = hI 0 from rfl, if_pos rfl]; rfl
  · unfold fM_labelWhy
    rw [show (0 : Int64) = hL 0 from rfl, if_pos rfl]; rfl
theorem t_labelWhy (hl : hWd l) (hr : hR G (hm M)) (h : hV B (hm M)) (b1 : 0 ≤ b) (b2 : b < 9) (f1 : 0 ≤ f) (f2 : f < 360) : ∃ x : Int, 0 ≤ x ∧ x ≤ 5 ∧ fG_labelHindrance G (hI l.length) (hI b) (hI f) = some (hI x) ∧ fM_labelWhy M (hL (p5 l)) (hI b) (hI f) = some (hI x) ∧ (x = 0 → f + lg l.length b ≤ 360 ∧ ∀ j, 0 ≤ j → j < hm M 2 → ¬ mt (hm M) j b f (f + lg l.length b - 1)) := by
  have h8 := hl.2.1
  have h81 := hl.1
  have hL := lg_r (n := (l.length : Int)) (by omega) (by omega) b1 b2
  have hp := p5_pos hl
  have hp2 := p5_b hl
  have hq := h.2.1 b b1 b2
  unfold fG_labelHindrance fM_labelWhy
  rw [g_lastOf b1 b2]
  by_cases c1 : f + lg l.length b - 1 < 360
  · obtain ⟨x, e1, hx⟩ := g_meeting (lo := f) (hi := f + lg l.length b - 1) hr h b1 b2 (by omega) (by omega) (by omega) (by omega)
    obtain ⟨t, e2, ht⟩ := m_free (lo := f) (hi := f + lg l.length b - 1) h b1 b2 (by omega) (by omega) (by omega) (by omega)
    have cl : ¬ ((l.length : Int) = 0) := by omega
    have cw : ¬ (p5 l = 0) := by omega
    rcases hx with ⟨x1, x2, x3, -⟩ | ⟨rfl, hx⟩
    · have : t = false := by
        rw [Bool.eq_false_iff]
        intro z
        exact (ht.mp z) x x1 x2 x3
      subst this
      have hc := h.1.2.2.1
      have xn : ¬ x = -1 := by omega
      refine ⟨3, by omega, by omega, ?_, ?_, fun z => by omega⟩
      · simp (disch := omega) only [↓reduceIte, Int.reduceEq, Int.reduceLT, bnd_s, bnd2_s, bnd3_s, hI_lit, hL_lit, hI_add, hI_sub, hI_mul, hI_neg, hI_lt, hI_eq, if_true, if_false, eq_self_iff_true, true_and, and_true, false_and, and_false, decide_eq_true_eq, not_true, not_false_iff, Bool.false_eq_true, Bool.true_eq_false, cl, c1, e1, xn]
      · simp (disch := omega) only [↓reduceIte, Int.reduceEq, Int.reduceLT, bnd_s, bnd2_s, bnd3_s, hI_lit, hL_lit, hI_add, hI_sub, hI_mul, hI_neg, hI_lt, hI_eq, if_true, if_false, eq_self_iff_true, true_and, and_true, false_and, and_false, decide_eq_true_eq, not_true, not_false_iff, Bool.false_eq_true, Bool.true_eq_false, hL_eq, cw, m_len hl, m_longBy b1 b2, c1, e2]
    · have : t = true := ht.mpr hx
      subst this
      obtain ⟨u, e3, e4⟩ := t_crossTorn (f := f) (la := f + lg l.length b - 1) hr h f1 (by omega) (by omega)
      by_cases c2 : f + 1 ≤ hm M (5 + b) ∧ hm M (5 + b) ≤ f + lg l.length b - 1
      · have c21 : f < hm M (5 + b) := by omega
        have c22 : ¬ f + lg l.length b - 1 < hm M (5 + b) := by omega
        refine ⟨4, by omega, by omega, ?_, ?_, fun z => by omega⟩
        · simp (disch := omega) only [↓reduceIte, Int.reduceEq, Int.reduceLT, bnd_s, bnd2_s, bnd3_s, hI_lit, hL_lit, hI_add, hI_sub, hI_mul, hI_neg, hI_lt, hI_eq, if_true, if_false, eq_self_iff_true, true_and, and_true, false_and, and_false, decide_eq_true_eq, not_true, not_false_iff, Bool.false_eq_true, Bool.true_eq_false, cl, c1, e1, r_hem hr, c21, c22]
        · simp (disch := omega) only [↓reduceIte, Int.reduceEq, Int.reduceLT, bnd_s, bnd2_s, bnd3_s, hI_lit, hL_lit, hI_add, hI_sub, hI_mul, hI_neg, hI_lt, hI_eq, if_true, if_false, eq_self_iff_true, true_and, and_true, false_and, and_false, decide_eq_true_eq, not_true, not_false_iff, Bool.false_eq_true, Bool.true_eq_false, hL_eq, cw, m_len hl, m_longBy b1 b2, c1, e2, mrd, isIn_d, c2, decide_true]
      · have eG : (if f < hm M (5 + b) then if f + lg l.length b - 1 < hm M (5 + b) then fG_labelHindrance_j61 G (hI f) (hI (f + lg l.length b - 1)) else some (hI 4) else fG_labelHindrance_j61 G (hI f) (hI (f + lg l.length b - 1))) = fG_labelHindrance_j61 G (hI f) (hI (f + lg l.length b - 1)) := by
          split
          · rw [if_pos (by omega)]
          · rfl
        refine ⟨if u = true then 5 else 0, by split <;> omega, by split <;> omega, ?_, ?_, fun _ => ⟨by omega, hx⟩⟩
        · simp (disch := omega) only [↓reduceIte, Int.reduceEq, Int.reduceLT, bnd_s, bnd2_s, bnd3_s, hI_lit, hL_lit, hI_add, hI_sub, hI_mul, hI_neg, hI_lt, hI_eq, if_true, if_false, eq_self_iff_true, true_and, and_true, false_and, and_false, decide_eq_true_eq, not_true, not_false_iff, Bool.false_eq_true, Bool.true_eq_false, cl, c1, e1, r_hem hr]
          rw [eG, e3]
        · cases u <;> simp (disch := omega) only [↓reduceIte, Int.reduceEq, Int.reduceLT, bnd_s, bnd2_s, bnd3_s, hI_lit, hL_lit, hI_add, hI_sub, hI_mul, hI_neg, hI_lt, hI_eq, if_true, if_false, eq_self_iff_true, true_and, and_true, false_and, and_false, decide_eq_true_eq, not_true, not_false_iff, Bool.false_eq_true, Bool.true_eq_false, hL_eq, cw, m_len hl, m_longBy b1 b2, c1, e2, mrd, isIn_d, c2, decide_false, e4]
  · have cl : ¬ ((l.length : Int) = 0) := by omega
    have cw : ¬ (p5 l = 0) := by omega
    refine ⟨2, by omega, by omega, ?_, ?_, fun z => by omega⟩
    · simp (disch := omega) only [↓reduceIte, Int.reduceEq, Int.reduceLT, bnd_s, bnd2_s, bnd3_s, hI_lit, hL_lit, hI_add, hI_sub, hI_mul, hI_neg, hI_lt, hI_eq, if_true, if_false, eq_self_iff_true, true_and, and_true, false_and, and_false, decide_eq_true_eq, not_true, not_false_iff, Bool.false_eq_true, Bool.true_eq_false, cl, c1]
    · simp (disch := omega) only [↓reduceIte, Int.reduceEq, Int.reduceLT, bnd_s, bnd2_s, bnd3_s, hI_lit, hL_lit, hI_add, hI_sub, hI_mul, hI_neg, hI_lt, hI_eq, if_true, if_false, eq_self_iff_true, true_and, and_true, false_and, and_false, decide_eq_true_eq, not_true, not_false_iff, Bool.false_eq_true, Bool.true_eq_false, hL_eq, cw, m_len hl, m_longBy b1 b2, c1]
end HHL

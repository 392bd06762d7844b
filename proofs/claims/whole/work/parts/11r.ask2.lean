/-! MORE QUESTIONS: the gore at a meridian, torn seams, a name sought, the next midnight, the picture of a band -/
section HHR
variable {σ τ : Int → Int} {M M1 M2 : zM} {G Go G1 : zG} {z v w k B b m d f x y : Int} {l : List Int} {I : zI} {Y : Nat → Int32} {Γ : Nat → zG} {D : zD} {O : Nat → Int32}
def goA (σ : Int → Int) (m k : Int) : Prop := 0 ≤ k ∧ k < σ 0 ∧ bg σ k ≤ m ∧ ∀ j, k < j → j < σ 0 → m < bg σ j
theorem goA_u (h1 : goA σ m x) (h2 : goA σ m y) : x = y := by
  obtain ⟨a1, a2, a3, a4⟩ := h1
  obtain ⟨b1, b2, b3, b4⟩ := h2
  rcases Int.lt_trichotomy x y with c | c | c
  · have := a4 y c b2; omega
  · exact c
  · have := b4 x c a2; omega
theorem g_goreAt (hr : hC G σ) (h : hV B σ) (q : 1 ≤ σ 0) (m1 : 0 ≤ m) (m2 : m < 360) : ∃ k, fC_goreCovering G (hI m) = some (hI k) ∧ goA σ m k := by
  have h0 := h.1.1
  have key : ∃ r, iter (fun s => fC_goreCovering_b4 G (hI m) s.1 s.2) fu (hI 0, hI 0) = some r ∧ ∃ k, r = hI k ∧ goA σ m k := by
    refine it_one (σ 0).toNat (fun i s => ∃ c : Int, s = (hI c, hI i) ∧ 0 ≤ c ∧ c < 12 ∧ (i = 0 → c = 0) ∧ (0 < (i : Int) → c < i ∧ bg σ c ≤ m ∧ ∀ j, c < j → j < i → m < bg σ j)) _ (by omega) ⟨0, rfl, by omega, by omega, fun _ => rfl, fun z => by omega⟩ ?_
    rintro i s hi ⟨c, rfl, c1, c12, c2, c3⟩
    unfold fC_goreCovering_b4
    dsimp only
    rw [c_gores hr, ilt (by omega) (by omega) (by omega) (by omega)]
    by_cases ci : (i : Int) < σ 0
    · have hb := bg_r h (k := i) (by omega) ci
      rw [if_pos ci, c_begin hr (by omega) ci (by omega), bnd_s, ilt (by omega) (by omega) (by omega) (by omega), show (1 : Int32) = hI 1 from rfl, hI_add]
      by_cases cm : m < bg σ i
      · rw [if_pos cm]
        have i0 : 0 < (i : Int) := by
          by_cases e : i = 0
          · subst e; have e2 : bg σ ((0 : Nat) : Int) = 0 := bg_0; omega
          · omega
        obtain ⟨d1, d2, d3⟩ := c3 i0
        refine Or.inl ⟨by omega, _, rfl, c, rfl, c1, c12, fun z => by omega, fun _ => ⟨by omega, d2, fun j j1 j2 => ?_⟩⟩
        by_cases e : j = i
        · subst e; exact cm
        · exact d3 j j1 (by omega)
      · rw [if_neg cm]
        exact Or.inl ⟨by omega, _, rfl, i, rfl, by omega, by omega, fun z => by omega, fun _ => ⟨by omega, by omega, fun j j1 j2 => by omega⟩⟩
    · rw [if_neg ci]
      obtain ⟨d1, d2, d3⟩ := c3 (by omega)
      exact Or.inr ⟨_, rfl, c, rfl, c1, by omega, d2, fun j j1 j2 => d3 j j1 (by omega)⟩
  obtain ⟨r, e, k, rfl, hk⟩ := key
  exact ⟨k, e, hk⟩
theorem m_goreOn (h : hV B (hm M)) (q : 1 ≤ hm M 0) (m1 : 0 ≤ m) (m2 : m < 360) : ∃ k, fM_goreOn M (hI m) = some (hI k) ∧ goA (hm M) m k := by
  have h0 := h.1.1
  have key : ∃ r, iter (fun s => fM_goreOn_b2 M (hI m) s) fu (hI 0) = some r ∧ ∃ k, r = hI k ∧ goA (hm M) m k := by
    refine it_one 12 (fun i s => s = hI i ∧ (i : Int) < hm M 0 ∧ bg (hm M) i ≤ m) _ (by omega) ⟨rfl, by omega, by show bg (hm M) 0 ≤ m; rw [bg_0]; exact m1⟩ ?_
    rintro i s hi ⟨rfl, i1, i2⟩
    unfold fM_goreOn_b2
    rw [m_0, show (1 : Int32) = hI 1 from rfl, hI_add, ilt (by omega) (by omega) (by omega) (by omega)]
    by_cases ci : (i : Int) + 1 < hm M 0
    · have hb := bg_r h (k := (i : Int) + 1) (by omega) ci
      rw [if_pos ci, m_begin h (by omega) (by omega), bnd_s, ilt (by omega) (by omega) (by omega) (by omega)]
      by_cases cm : m < bg (hm M) ((i : Int) + 1)
      · rw [if_pos cm]
        refine Or.inr ⟨_, rfl, i, rfl, by omega, i1, i2, fun j j1 j2 => ?_⟩
        by_cases e : j = i + 1
        · subst e; exact cm
        · have := bg_mono h (j := (i : Int) + 1) (k := j) (by omega) (by omega) (by omega)
          omega
      · rw [if_neg cm]
        exact Or.inl ⟨by omega, _, rfl, rfl, by omega, by show bg (hm M) ((i : Int) + 1) ≤ m; omega⟩
    · rw [if_neg ci]
      exact Or.inr ⟨_, rfl, i, rfl, by omega, i1, i2, fun j j1 j2 => by omega⟩
  obtain ⟨r, e, k, rfl, hk⟩ := key
  exact ⟨k, e, hk⟩
theorem q_goreAt (hg : hG B (Γ 10) (hm M)) (hB : B < 900000000) (x1 : -2147483648 ≤ x) (x2 : x < 2147483648) : QR M eA "" (fX_goreAt Γ (hI x)) (fM_goreAt M (hI x)) (fun p q => p = q) := by
  obtain ⟨hr, h, h2⟩ := hg
  have hh : hV B (hm (wmF M 0 0)) := h
  unfold fX_goreAt fM_goreAt
  rw [Xmer_d x1 x2, Mmer_d x1 x2]
  by_cases c : 0 ≤ x ∧ x < 360
  · obtain ⟨u, e1, u1⟩ := g_goreAt (hR_C hr) h (by omega) c.1 c.2
    obtain ⟨u', e2, u2⟩ := m_goreOn (M := wmF M 0 0) hh (by show 1 ≤ hm M 0; omega) c.1 c.2
    have := goA_u u1 u2
    subst this
    refine Or.inl ⟨hI u, hI u, ?_, ?_, rfl⟩
    · rw [decide_eq_true c, if_pos rfl, e1, bnd_s]
    · rw [decide_eq_true c, goes_t, bnd2_s, if_pos rfl, e2, bnd_s]
  · refine Or.inr (Or.inl ⟨0, ?_, ?_⟩)
    · rw [decide_eq_false c, if_neg (by decide)]; rfl
    · rw [decide_eq_false c, goes_f]; rfl
theorem q_tornSeams (hg : hG B (Γ 10) (hm M)) : ∃ v, fX_tornSeams Γ = some v ∧ fM_tornSeams M = some (v, wmF M 0 0) := by
  obtain ⟨hr, h, -⟩ := hg
  have h0 := h.1.1
  have key : ∃ r1 r2, iter (fun s => fC_countTorn_b4 (Γ 10) s.1 s.2) fu (hI 0, hI 0) = some r1 ∧ iter (fun s => fM_torn_b4 M s.1 s.2) fu (hI 0, hI 0) = some r2 ∧ r1 = r2 := by
    refine it_two (hm M 0).toNat (fun i s1 s2 => ∃ n, s1 = (hI n, hI i) ∧ s2 = (hI n, hI i)) _ (by omega) ⟨0, rfl, rfl⟩ ?_
    rintro i s1 s2 hi ⟨n, rfl, rfl⟩
    unfold fC_countTorn_b4 fM_torn_b4
    by_cases c : (i : Int) < hm M 0
    · have hq := h.2.2.1 i (by omega) c
      by_cases e : hm M (26 + (i : Int)) = 0
      · simp (disch := omega) only [↓reduceIte, Int.reduceEq, Int.reduceLT, bnd_s, bnd2_s, bnd3_s, hI_lit, hL_lit, hI_add, hI_sub, hI_mul, hI_neg, hI_lt, hI_eq, if_true, if_false, eq_self_iff_true, true_and, and_true, false_and, and_false, decide_eq_true_eq, not_true, not_false_iff, Bool.false_eq_true, Bool.true_eq_false, r_gores hr, m_0, c, r_stitch hr, m_torn, e, decide_true, tr_t]
        exact Or.inl ⟨by omega, _, _, rfl, rfl, n + 1, rfl, rfl⟩
      · simp (disch := omega) only [↓reduceIte, Int.reduceEq, Int.reduceLT, bnd_s, bnd2_s, bnd3_s, hI_lit, hL_lit, hI_add, hI_sub, hI_mul, hI_neg, hI_lt, hI_eq, if_true, if_false, eq_self_iff_true, true_and, and_true, false_and, and_false, decide_eq_true_eq, not_true, not_false_iff, Bool.false_eq_true, Bool.true_eq_false, r_gores hr, m_0, c, r_stitch hr, m_torn, e, decide_false, tr_f, Int.add_zero]
        exact Or.inl ⟨by omega, _, _, rfl, rfl, n, rfl, rfl⟩
    · simp (disch := omega) only [↓reduceIte, Int.reduceEq, Int.reduceLT, bnd_s, bnd2_s, bnd3_s, hI_lit, hL_lit, hI_add, hI_sub, hI_mul, hI_neg, hI_lt, hI_eq, if_true, if_false, eq_self_iff_true, true_and, and_true, false_and, and_false, decide_eq_true_eq, not_true, not_false_iff, Bool.false_eq_true, Bool.true_eq_false, r_gores hr, m_0, c]
      exact Or.inr ⟨_, _, rfl, rfl, rfl⟩
  obtain ⟨r1, r2, q1, q2, rfl⟩ := key
  refine ⟨r1, ?_, ?_⟩
  · unfold fX_tornSeams fC_countTorn
    rw [show iter (fun s => fC_countTorn_b4 (Γ 10) s.1 s.2) fu (0, 0) = some r1 from q1, bnd_s]
  · unfold fM_tornSeams fM_torn
    rw [show iter (fun s => fM_torn_b4 M s.1 s.2) fu (0, 0) = some r1 from q2, bnd_s, told_e]; rfl
theorem q_findSpot (hg : hG B (Γ 10) (hm M)) {n : Int} (hb : hBy I M n) (eI : iF I 1 = hI n) (eM : mF M 2 = hI n) (n1 : 0 ≤ n) (n2 : n ≤ 600) : ∃ v, fX_findSpot I Γ = some v ∧ fM_findSpot M = some (v, wmF M 0 0) := by
  obtain ⟨hr, h, -⟩ := hg
  unfold fX_findSpot fM_findSpot fM_findSpot_j21
  rcases t_word hb eI eM n1 n2 with ⟨l, l1, l2, l3⟩ | ⟨l2, l3⟩
  · obtain ⟨u, u1, u2, -⟩ := t_named l1 hr h
    have hp := p5_pos l1
    have hp2 := p5_b l1
    refine ⟨hI u, ?_, ?_⟩
    · rw [l2, bnd_s, u1, bnd_s]
    · rw [l3, bnd_s, show (0 : Int64) = hL 0 from rfl, iLeq (by omega) (by omega) (by omega) (by omega), if_neg (by omega), u2, bnd_s, told_e]; rfl
  · refine ⟨hI (-1), ?_, ?_⟩
    · rw [l2, bnd_s, g_named0 hr h, bnd_s]
    · rw [l3, bnd_s, show (0 : Int64) = hL 0 from rfl, if_pos rfl, told_e]; rfl
theorem q_nextMidnight (hg : hG B (Γ 10) (hm M)) (hB : B < 900000000) : ∃ v, fX_nextMidnight Γ = some v ∧ fM_nextMidnight M = some (v, wmF M 0 0) := by
  obtain ⟨hr, h, -⟩ := hg
  have h1 := h.1.2.1
  have key : ∃ r1 r2, iter (fun s => fG_spotNextAtMidnight_b6 (Γ 10) s.1 s.2.1 s.2.2) fu (hI (-1), hI 0, hI 0) = some r1 ∧ iter (fun s => fM_nextMidnight_b4 M s.1 s.2) fu (hI (-1), hI 0) = some r2 ∧ r2 = (r1, wmF M 0 0) := by
    refine it_two (hm M 1).toNat (fun i s1 s2 => ∃ b f : Int, s1 = (hI b, hI f, hI i) ∧ s2 = (hI b, hI i) ∧ (b = -1 ∨ (0 ≤ b ∧ b < i ∧ f = 24 - lh (hm M) (hm M (38 + 9 * b + 3)) (hm M (38 + 9 * b + 4)) % 24))) _ (by omega) ⟨-1, 0, rfl, rfl, Or.inl rfl⟩ ?_
    rintro i s1 s2 hi ⟨b, f, rfl, rfl, hb⟩
    unfold fG_spotNextAtMidnight_b6 fM_nextMidnight_b4
    dsimp only
    by_cases c : (i : Int) < hm M 1
    · have k1 : (0 : Int) ≤ i := by omega
      have hs := h.2.2.2.1 i k1 c
      unfold hVs at hs
      have g := g_lhr (b := hm M (38 + 9 * (i : Int) + 3)) (m := hm M (38 + 9 * (i : Int) + 4)) hr h (by omega) (by omega) (by omega) (by omega) (by omega)
      rcases hb with rfl | ⟨b1, b2, rfl⟩
      · simp (disch := omega) only [↓reduceIte, Int.reduceEq, Int.reduceLT, bnd_s, bnd2_s, bnd3_s, hI_lit, hL_lit, hI_add, hI_sub, hI_mul, hI_neg, hI_lt, hI_eq, if_true, if_false, eq_self_iff_true, true_and, and_true, false_and, and_false, decide_eq_true_eq, not_true, not_false_iff, Bool.false_eq_true, Bool.true_eq_false, r_spots hr, m_1, c, rix_hI, r_s2 hr k1 c, r_s3 hr k1 c, g]
        exact Or.inl ⟨by omega, _, _, rfl, rfl, i, _, rfl, rfl, Or.inr ⟨by omega, by omega, rfl⟩⟩
      · have bn : ¬ b = -1 := by omega
        by_cases cl : 24 - lh (hm M) (hm M (38 + 9 * (i : Int) + 3)) (hm M (38 + 9 * (i : Int) + 4)) % 24 < 24 - lh (hm M) (hm M (38 + 9 * b + 3)) (hm M (38 + 9 * b + 4)) % 24
        · simp (disch := omega) only [↓reduceIte, Int.reduceEq, Int.reduceLT, bnd_s, bnd2_s, bnd3_s, hI_lit, hL_lit, hI_add, hI_sub, hI_mul, hI_neg, hI_lt, hI_eq, if_true, if_false, eq_self_iff_true, true_and, and_true, false_and, and_false, decide_eq_true_eq, not_true, not_false_iff, Bool.false_eq_true, Bool.true_eq_false, r_spots hr, m_1, c, rix_hI, r_s2 hr k1 c, r_s3 hr k1 c, g, bn, m_hour h (show B < 1000000000 by omega) k1 c, m_hour h (show B < 1000000000 by omega) b1 (show b < hm M 1 by omega), cl]
          exact Or.inl ⟨by omega, _, _, rfl, rfl, i, _, rfl, rfl, Or.inr ⟨by omega, by omega, rfl⟩⟩
        · simp (disch := omega) only [↓reduceIte, Int.reduceEq, Int.reduceLT, bnd_s, bnd2_s, bnd3_s, hI_lit, hL_lit, hI_add, hI_sub, hI_mul, hI_neg, hI_lt, hI_eq, if_true, if_false, eq_self_iff_true, true_and, and_true, false_and, and_false, decide_eq_true_eq, not_true, not_false_iff, Bool.false_eq_true, Bool.true_eq_false, r_spots hr, m_1, c, rix_hI, r_s2 hr k1 c, r_s3 hr k1 c, g, bn, m_hour h (show B < 1000000000 by omega) k1 c, m_hour h (show B < 1000000000 by omega) b1 (show b < hm M 1 by omega), cl]
          exact Or.inl ⟨by omega, _, _, rfl, rfl, b, _, rfl, rfl, Or.inr ⟨by omega, by omega, rfl⟩⟩
    · simp (disch := omega) only [↓reduceIte, Int.reduceEq, Int.reduceLT, bnd_s, bnd2_s, bnd3_s, hI_lit, hL_lit, hI_add, hI_sub, hI_mul, hI_neg, hI_lt, hI_eq, if_true, if_false, eq_self_iff_true, true_and, and_true, false_and, and_false, decide_eq_true_eq, not_true, not_false_iff, Bool.false_eq_true, Bool.true_eq_false, r_spots hr, m_1, c, told_e]
      exact Or.inr ⟨_, _, rfl, rfl, rfl⟩
  obtain ⟨r1, r2, q1, q2, rfl⟩ := key
  refine ⟨r1, ?_, ?_⟩
  · unfold fX_nextMidnight fG_spotNextAtMidnight
    rw [show iter (fun s => fG_spotNextAtMidnight_b6 (Γ 10) s.1 s.2.1 s.2.2) fu (-1, 0, 0) = some r1 from q1, bnd_s]
  · exact q2
/-- the sign of ten meridians -/
def pB (σ : Int → Int) (b lo r : Int) : Prop :=
  (lo ≤ σ (5 + b) ∧ σ (5 + b) ≤ lo + 9 ∧ r = 72) ∨ (¬ (lo ≤ σ (5 + b) ∧ σ (5 + b) ≤ lo + 9) ∧ (
    ((∃ m, lo ≤ m ∧ m ≤ lo + 9 ∧ tA σ m) ∧ r = 120) ∨ ((¬ ∃ m, lo ≤ m ∧ m ≤ lo + 9 ∧ tA σ m) ∧ (
      ((∃ k, 0 ≤ k ∧ k < σ 0 ∧ lo ≤ bg σ k ∧ bg σ k ≤ lo + 9) ∧ r = 43) ∨ ((¬ ∃ k, 0 ≤ k ∧ k < σ 0 ∧ lo ≤ bg σ k ∧ bg σ k ≤ lo + 9) ∧ (
        ((∃ k, 0 ≤ k ∧ k < σ 2 ∧ mt σ k b lo (lo + 9)) ∧ r = 97) ∨ ((¬ ∃ k, 0 ≤ k ∧ k < σ 2 ∧ mt σ k b lo (lo + 9)) ∧ r = 46)))))))
theorem pB_u {lo : Int} (h1 : pB σ b lo x) (h2 : pB σ b lo y) : x = y := by
  rcases h1 with ⟨a1, a2, rfl⟩ | ⟨a, h1⟩ <;> rcases h2 with ⟨b1, b2, rfl⟩ | ⟨b, h2⟩
  · rfl
  · exact absurd ⟨a1, a2⟩ b
  · exact absurd ⟨b1, b2⟩ a
  · rcases h1 with ⟨a, rfl⟩ | ⟨a, h1⟩ <;> rcases h2 with ⟨b, rfl⟩ | ⟨b, h2⟩
    · rfl
    · exact absurd a b
    · exact absurd b a
    · rcases h1 with ⟨a, rfl⟩ | ⟨a, h1⟩ <;> rcases h2 with ⟨b, rfl⟩ | ⟨b, h2⟩
      · rfl
      · exact absurd a b
      · exact absurd b a
      · rcases h1 with ⟨a, rfl⟩ | ⟨a, rfl⟩ <;> rcases h2 with ⟨b, rfl⟩ | ⟨b, rfl⟩
        · rfl
        · exact absurd a b
        · exact absurd b a
        · rfl
theorem g_picture {lo : Int} (hr : hR G σ) (h : hV B σ) (b1 : 0 ≤ b) (b2 : b < 9) (l1 : 0 ≤ lo) (l2 : lo ≤ 350) : ∃ r, fG_pictureOf G (hI b) (hI lo) (hI (lo + 9)) = some (hI r) ∧ pB σ b lo r := by
  have h0 := h.1.1
  have hq := h.2.1 b b1 b2
  by_cases ch : lo ≤ σ (5 + b) ∧ σ (5 + b) ≤ lo + 9
  · refine ⟨72, ?_, Or.inl ⟨ch.1, ch.2, rfl⟩⟩
    have c1 : ¬ σ (5 + b) < lo := by omega
    have c2 : ¬ lo + 9 < σ (5 + b) := by omega
    unfold fG_pictureOf
    simp (disch := omega) only [↓reduceIte, Int.reduceEq, Int.reduceLT, bnd_s, bnd2_s, bnd3_s, hI_lit, hL_lit, hI_add, hI_sub, hI_mul, hI_neg, hI_lt, hI_eq, if_true, if_false, eq_self_iff_true, true_and, and_true, false_and, and_false, decide_eq_true_eq, not_true, not_false_iff, Bool.false_eq_true, Bool.true_eq_false, r_hem hr, c1, c2]
  · have e : fG_pictureOf G (hI b) (hI lo) (hI (lo + 9)) = iter (fun s => fG_pictureOf_b29 G (hI b) (hI lo) (hI (lo + 9)) s.1 s.2) fu (false, hI 0) := by
      unfold fG_pictureOf fG_pictureOf_j23
      by_cases c1 : σ (5 + b) < lo
      · simp (disch := omega) only [↓reduceIte, Int.reduceEq, Int.reduceLT, bnd_s, bnd2_s, bnd3_s, hI_lit, hL_lit, hI_add, hI_sub, hI_mul, hI_neg, hI_lt, hI_eq, if_true, if_false, eq_self_iff_true, true_and, and_true, false_and, and_false, decide_eq_true_eq, not_true, not_false_iff, Bool.false_eq_true, Bool.true_eq_false, r_hem hr, c1]
      · have c2 : lo + 9 < σ (5 + b) := by omega
        simp (disch := omega) only [↓reduceIte, Int.reduceEq, Int.reduceLT, bnd_s, bnd2_s, bnd3_s, hI_lit, hL_lit, hI_add, hI_sub, hI_mul, hI_neg, hI_lt, hI_eq, if_true, if_false, eq_self_iff_true, true_and, and_true, false_and, and_false, decide_eq_true_eq, not_true, not_false_iff, Bool.false_eq_true, Bool.true_eq_false, r_hem hr, c1, c2]
    have key : ∃ r, iter (fun s => fG_pictureOf_b29 G (hI b) (hI lo) (hI (lo + 9)) s.1 s.2) fu (false, hI 0) = some r ∧ ∃ x, r = hI x ∧ pB σ b lo x := by
      refine it_one (σ 0).toNat (fun i s => ∃ t : Bool, s = (t, hI i) ∧ (t = true ↔ ∃ k, 0 ≤ k ∧ k < (i : Int) ∧ lo ≤ bg σ k ∧ bg σ k ≤ lo + 9) ∧ ∀ k : Int, 0 ≤ k → k < i → ¬ (lo ≤ bg σ k ∧ bg σ k ≤ lo + 9 ∧ σ (26 + k) = 0)) _ (by omega) ⟨false, rfl, ⟨fun z => Bool.noConfusion z, fun ⟨k, k1, k2, _⟩ => by omega⟩, fun k k1 k2 => by omega⟩ ?_
      rintro i s hi ⟨t, rfl, ht, hn⟩
      unfold fG_pictureOf_b29
      dsimp only
      by_cases c : (i : Int) < σ 0
      · have hi3 : i < (σ 0).toNat := by clear ht hn; omega
        have hb := bg_r h (k := i) (by omega) c
        have go : ∀ t' : Bool, (t' = true ↔ ∃ k, 0 ≤ k ∧ k < ((i + 1 : Nat) : Int) ∧ lo ≤ bg σ k ∧ bg σ k ≤ lo + 9) → ¬ (lo ≤ bg σ i ∧ bg σ i ≤ lo + 9 ∧ σ (26 + (i : Int)) = 0) → ∃ t : Bool, (t', hI ((i : Int) + 1)) = (t, hI ((i + 1 : Nat) : Int)) ∧ (t = true ↔ ∃ k, 0 ≤ k ∧ k < ((i + 1 : Nat) : Int) ∧ lo ≤ bg σ k ∧ bg σ k ≤ lo + 9) ∧ ∀ k : Int, 0 ≤ k → k < ((i + 1 : Nat) : Int) → ¬ (lo ≤ bg σ k ∧ bg σ k ≤ lo + 9 ∧ σ (26 + k) = 0) := fun t' h1 h2 => ⟨t', rfl, h1, fun k k1 k2 => by
          by_cases e : k = i
          · subst e; exact h2
          · exact hn k k1 (by omega)⟩
        have tsame : ¬ (lo ≤ bg σ i ∧ bg σ i ≤ lo + 9) → (t = true ↔ ∃ k, 0 ≤ k ∧ k < ((i + 1 : Nat) : Int) ∧ lo ≤ bg σ k ∧ bg σ k ≤ lo + 9) := fun hni => ht.trans ⟨fun ⟨k, k1, k2, k3⟩ => ⟨k, k1, by omega, k3⟩, fun ⟨k, k1, k2, k3⟩ => ⟨k, k1, by
          by_cases e : k = i
          · subst e; exact absurd k3 hni
          · omega, k3⟩⟩
        by_cases c1 : bg σ i < lo
        · simp (disch := omega) only [↓reduceIte, Int.reduceEq, Int.reduceLT, bnd_s, bnd2_s, bnd3_s, hI_lit, hL_lit, hI_add, hI_sub, hI_mul, hI_neg, hI_lt, hI_eq, if_true, if_false, eq_self_iff_true, true_and, and_true, false_and, and_false, decide_eq_true_eq, not_true, not_false_iff, Bool.false_eq_true, Bool.true_eq_false, r_gores hr, c, r_begin hr, c1]
          exact Or.inl ⟨hi3, _, rfl, go t (tsame (by omega)) (by omega)⟩
        · by_cases c2 : lo + 9 < bg σ i
          · simp (disch := omega) only [↓reduceIte, Int.reduceEq, Int.reduceLT, bnd_s, bnd2_s, bnd3_s, hI_lit, hL_lit, hI_add, hI_sub, hI_mul, hI_neg, hI_lt, hI_eq, if_true, if_false, eq_self_iff_true, true_and, and_true, false_and, and_false, decide_eq_true_eq, not_true, not_false_iff, Bool.false_eq_true, Bool.true_eq_false, r_gores hr, c, r_begin hr, c1, c2]
            exact Or.inl ⟨hi3, _, rfl, go t (tsame (by omega)) (by omega)⟩
          · by_cases c3 : σ (26 + (i : Int)) = 0
            · simp (disch := omega) only [↓reduceIte, Int.reduceEq, Int.reduceLT, bnd_s, bnd2_s, bnd3_s, hI_lit, hL_lit, hI_add, hI_sub, hI_mul, hI_neg, hI_lt, hI_eq, if_true, if_false, eq_self_iff_true, true_and, and_true, false_and, and_false, decide_eq_true_eq, not_true, not_false_iff, Bool.false_eq_true, Bool.true_eq_false, r_gores hr, c, r_begin hr, c1, c2, g_torn hr (show (0 : Int) ≤ i by omega) c (show (i : Int) < 12 by omega) h, c3, decide_true]
              exact Or.inr ⟨_, rfl, 120, rfl, Or.inr ⟨ch, Or.inl ⟨⟨bg σ i, by omega, by omega, i, by omega, c, rfl, c3⟩, rfl⟩⟩⟩
            · simp (disch := omega) only [↓reduceIte, Int.reduceEq, Int.reduceLT, bnd_s, bnd2_s, bnd3_s, hI_lit, hL_lit, hI_add, hI_sub, hI_mul, hI_neg, hI_lt, hI_eq, if_true, if_false, eq_self_iff_true, true_and, and_true, false_and, and_false, decide_eq_true_eq, not_true, not_false_iff, Bool.false_eq_true, Bool.true_eq_false, r_gores hr, c, r_begin hr, c1, c2, g_torn hr (show (0 : Int) ≤ i by omega) c (show (i : Int) < 12 by omega) h, c3, decide_false]
              exact Or.inl ⟨hi3, _, rfl, go true ⟨fun _ => ⟨i, by omega, by omega, by omega, by omega⟩, fun _ => rfl⟩ (fun z => c3 z.2.2)⟩
      · have nt : ¬ ∃ m, lo ≤ m ∧ m ≤ lo + 9 ∧ tA σ m := by
          rintro ⟨m, a1, a2, k, k1, k2, rfl, k4⟩
          exact hn k k1 (by omega) ⟨a1, a2, k4⟩
        cases t with
        | true =>
          simp (disch := omega) only [↓reduceIte, Int.reduceEq, Int.reduceLT, bnd_s, bnd2_s, bnd3_s, hI_lit, hL_lit, hI_add, hI_sub, hI_mul, hI_neg, hI_lt, hI_eq, if_true, if_false, eq_self_iff_true, true_and, and_true, false_and, and_false, decide_eq_true_eq, not_true, not_false_iff, Bool.false_eq_true, Bool.true_eq_false, r_gores hr, c]
          obtain ⟨k, k1, k2, k3⟩ := ht.mp rfl
          exact Or.inr ⟨_, rfl, 43, rfl, Or.inr ⟨ch, Or.inr ⟨nt, Or.inl ⟨⟨k, k1, by omega, k3⟩, rfl⟩⟩⟩⟩
        | false =>
          have ns : ¬ ∃ k, 0 ≤ k ∧ k < σ 0 ∧ lo ≤ bg σ k ∧ bg σ k ≤ lo + 9 := by
            rintro ⟨k, k1, k2, k3⟩
            exact Bool.noConfusion (ht.mpr ⟨k, k1, by omega, k3⟩)
          obtain ⟨x, e1, hx⟩ := g_meeting (lo := lo) (hi := lo + 9) hr h b1 b2 (by omega) (by omega) (by omega) (by omega)
          have hc2 := h.1.2.2.1
          rcases hx with ⟨x1, x2, x3, -⟩ | ⟨rfl, hx⟩
          · have xn : ¬ x = -1 := by omega
            simp (disch := omega) only [↓reduceIte, Int.reduceEq, Int.reduceLT, bnd_s, bnd2_s, bnd3_s, hI_lit, hL_lit, hI_add, hI_sub, hI_mul, hI_neg, hI_lt, hI_eq, if_true, if_false, eq_self_iff_true, true_and, and_true, false_and, and_false, decide_eq_true_eq, not_true, not_false_iff, Bool.false_eq_true, Bool.true_eq_false, r_gores hr, c, e1, xn]
            exact Or.inr ⟨_, rfl, 97, rfl, Or.inr ⟨ch, Or.inr ⟨nt, Or.inr ⟨ns, Or.inl ⟨⟨x, x1, x2, x3⟩, rfl⟩⟩⟩⟩⟩
          · simp (disch := omega) only [↓reduceIte, Int.reduceEq, Int.reduceLT, bnd_s, bnd2_s, bnd3_s, hI_lit, hL_lit, hI_add, hI_sub, hI_mul, hI_neg, hI_lt, hI_eq, if_true, if_false, eq_self_iff_true, true_and, and_true, false_and, and_false, decide_eq_true_eq, not_true, not_false_iff, Bool.false_eq_true, Bool.true_eq_false, r_gores hr, c, e1]
            exact Or.inr ⟨_, rfl, 46, rfl, Or.inr ⟨ch, Or.inr ⟨nt, Or.inr ⟨ns, Or.inr ⟨fun ⟨k, k1, k2, k3⟩ => hx k k1 k2 k3, rfl⟩⟩⟩⟩⟩
    obtain ⟨r, q, x, rfl, hx⟩ := key
    exact ⟨x, by rw [e]; exact q, hx⟩
end HHR

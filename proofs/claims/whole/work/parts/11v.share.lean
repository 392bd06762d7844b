/-! THE MEAN OF THE STITCHES, THE SHARE OF THE LABELS -/
section HHV
variable {σ τ : Int → Int} {M M1 M2 : zM} {G Go G1 : zG} {z v w k B b m d f x y : Int} {l : List Int} {I : zI} {Y : Nat → Int32} {Γ : Nat → zG} {D : zD} {O : Nat → Int32}
theorem q_mean (hg : hG B (Γ 10) (hm M)) : ∃ v, fX_meanStitches Γ = some v ∧ fM_meanStitches M = some (v, wmF M 0 0) := by
  obtain ⟨hr, h, h2⟩ := hg
  have h0 := h.1.1
  have key : ∃ r1 r2, iter (fun s => fX_meanStitches_b12 Γ s.1 s.2) fu (hI 0, hI 0) = some r1 ∧ iter (fun s => fM_meanStitches_b9 (wmF M 0 0) s.1 s.2) fu (hI 0, hI 0) = some r2 ∧ r2 = (r1, wmF M 0 0) := by
    refine it_two (hm M 0).toNat (fun i s1 s2 => ∃ n : Int, 0 ≤ n ∧ n ≤ 99 * i ∧ s1 = (hI n, hI i) ∧ s2 = (hI n, hI i)) _ (by omega) ⟨0, by omega, by omega, rfl, rfl⟩ ?_
    rintro i s1 s2 hi ⟨n, n1, n2, rfl, rfl⟩
    have hi2 : i ≤ (hm M 0).toNat := hi
    unfold fX_meanStitches_b12 fM_meanStitches_b9
    by_cases c : (i : Int) < hm M 0
    · have hq := h.2.2.1 i (by omega) c
      simp (disch := omega) only [↓reduceIte, Int.reduceEq, Int.reduceLT, bnd_s, bnd2_s, bnd3_s, hI_lit, hL_lit, hI_add, hI_sub, hI_mul, hI_neg, hI_lt, hI_eq, if_true, if_false, eq_self_iff_true, true_and, and_true, false_and, and_false, decide_eq_true_eq, not_true, not_false_iff, Bool.false_eq_true, Bool.true_eq_false, hm_L, r_gores hr, mA_wF, m_0, c, r_stitch hr, mrd]
      exact Or.inl ⟨by omega, _, _, rfl, rfl, n + hm M (26 + i), by omega, by omega, rfl, rfl⟩
    · obtain ⟨v, hv⟩ := finD_s (g := hm M 0) (s := n) h2 h0.2 n1 (by omega)
      simp (disch := omega) only [↓reduceIte, Int.reduceEq, Int.reduceLT, bnd_s, bnd2_s, bnd3_s, hI_lit, hL_lit, hI_add, hI_sub, hI_mul, hI_neg, hI_lt, hI_eq, if_true, if_false, eq_self_iff_true, true_and, and_true, false_and, and_false, decide_eq_true_eq, not_true, not_false_iff, Bool.false_eq_true, Bool.true_eq_false, hm_L, r_gores hr, mA_wF, m_0, c, hv]
      exact Or.inr ⟨_, _, rfl, rfl, rfl⟩
  obtain ⟨r1, r2, q1, q2, rfl⟩ := key
  exact ⟨r1, q1, q2⟩
/-- what of a band's meridians is covered by the first labels -/
def cov (σ : Int → Int) (b m : Int) (n : Nat) : Prop := ∃ k, 0 ≤ k ∧ k < (n : Int) ∧ mt σ k b m m
def lenL (σ : Int → Int) (b k : Int) : Int := if σ (128 + 4 * k + 3) = 0 ∧ σ (128 + 4 * k + 0) = b then σ (128 + 4 * k + 2) else 0
noncomputable def chi (p : Prop) : Int := @ite _ p (Classical.propDecidable p) 1 0
theorem chi_t {p : Prop} (h : p) : chi p = 1 := by unfold chi; exact if_pos h
theorem chi_f {p : Prop} (h : ¬ p) : chi p = 0 := by unfold chi; exact if_neg h
theorem sm_0 {p : Int → Int} (n : Nat) (h : ∀ i : Nat, i < n → p i = 0) : sm p n = 0 := by
  induction n with
  | zero => rfl
  | succ n ih =>
    show sm p n + p n = 0
    rw [ih (fun i hi => h i (by omega)), h n (by omega)]; rfl
theorem sm_int {a c : Int} (a0 : 0 ≤ a) (c0 : 0 ≤ c) : ∀ n : Nat, sm (fun m => chi (a ≤ m ∧ m < a + c)) n = if (n : Int) ≤ a then 0 else if (n : Int) < a + c then n - a else c := by
  intro n
  induction n with
  | zero =>
    show (0 : Int) = _
    rw [if_pos (by omega)]
  | succ n ih =>
    show sm (fun m => chi (a ≤ m ∧ m < a + c)) n + chi (a ≤ (n : Int) ∧ (n : Int) < a + c) = _
    rw [ih]
    by_cases h : a ≤ (n : Int) ∧ (n : Int) < a + c
    · rw [chi_t h]
      split <;> split <;> (try split) <;> (try split) <;> omega
    · rw [chi_f h]
      split <;> split <;> (try split) <;> (try split) <;> omega
theorem cov_sum (h : hV B σ) : ∀ n : Nat, (n : Int) ≤ σ 2 → sm (fun m => chi (cov σ b m n)) 360 = sm (lenL σ b) n := by
  intro n
  induction n with
  | zero =>
    intro _
    show _ = (0 : Int)
    exact sm_0 360 (fun i hi => chi_f (fun ⟨k, k1, k2, _⟩ => by omega))
  | succ n ih =>
    intro hn
    show _ = sm (lenL σ b) n + lenL σ b n
    rw [← ih (by omega)]
    have hl := h.2.2.2.2.1 n (by omega) (by omega)
    unfold hVl at hl
    have hc2 := h.1.2.2.1
    have e1 : lenL σ b n = sm (fun m => chi (mt σ n b m m)) 360 := by
      unfold lenL
      by_cases c : σ (128 + 4 * (n : Int) + 3) = 0 ∧ σ (128 + 4 * (n : Int) + 0) = b
      · rw [if_pos c]
        have e2 : sm (fun m => chi (mt σ n b m m)) 360 = sm (fun m => chi (σ (128 + 4 * (n : Int) + 1) ≤ m ∧ m < σ (128 + 4 * (n : Int) + 1) + σ (128 + 4 * (n : Int) + 2))) 360 := by
          apply sm_c
          intro i hi
          by_cases c2 : σ (128 + 4 * (n : Int) + 1) ≤ (i : Int) ∧ (i : Int) < σ (128 + 4 * (n : Int) + 1) + σ (128 + 4 * (n : Int) + 2)
          · rw [chi_t c2, chi_t ⟨c.1, c.2, c2.1, by omega⟩]
          · rw [chi_f c2, chi_f (fun z => c2 ⟨z.2.2.1, by have := z.2.2.2; omega⟩)]
        rw [e2, sm_int (by omega) (by omega), if_neg (by omega)]
        split <;> omega
      · rw [if_neg c]
        exact (sm_0 360 (fun i hi => chi_f (fun z => c ⟨z.1, z.2.1⟩))).symm
    rw [e1, ← sm_add]
    apply sm_c
    intro i hi
    by_cases c1 : cov σ b i n
    · obtain ⟨k, k1, k2, k3⟩ := c1
      have hk := h.2.2.2.2.1 k k1 (by omega)
      unfold hVl at hk
      have hd := h.2.2.2.2.2.1 k n k1 k2 (by omega) k3.1
      have c2 : ¬ mt σ n b i i := by
        intro z
        have := hd z.1 (k3.2.1.trans z.2.1.symm)
        have a1 := k3.2.2.1
        have a2 := k3.2.2.2
        have a3 := z.2.2.1
        have a4 := z.2.2.2
        omega
      rw [chi_t (show cov σ b i (n + 1) from ⟨k, k1, by omega, k3⟩), chi_t (show cov σ b i n from ⟨k, k1, k2, k3⟩), chi_f c2]; rfl
    · rw [chi_f c1]
      by_cases c2 : mt σ n b i i
      · rw [chi_t c2, chi_t (show cov σ b i (n + 1) from ⟨n, by omega, by omega, c2⟩)]; rfl
      · rw [chi_f c2, chi_f]
        · rfl
        · rintro ⟨k, k1, k2, k3⟩
          by_cases e : k = n
          · subst e; exact c2 k3
          · exact c1 ⟨k, k1, by omega, k3⟩
theorem sm_r {p : Int → Int} {c : Int} (n : Nat) (h : ∀ i : Nat, i < n → 0 ≤ p i ∧ p i ≤ c) : 0 ≤ sm p n ∧ sm p n ≤ c * n := by
  induction n with
  | zero => exact ⟨by show (0 : Int) ≤ 0; omega, by show (0 : Int) ≤ c * ((0 : Nat) : Int); rw [show ((0 : Nat) : Int) = 0 from rfl, Int.mul_zero]; omega⟩
  | succ n ih =>
    have h1 := ih (fun i hi => h i (by omega))
    have h2 := h n (by omega)
    have e : c * ((n + 1 : Nat) : Int) = c * n + c := by rw [show ((n + 1 : Nat) : Int) = (n : Int) + 1 by omega, Int.mul_add, Int.mul_one]
    show 0 ≤ sm p n + p n ∧ sm p n + p n ≤ c * ((n + 1 : Nat) : Int)
    rw [e]
    omega
theorem t_covered (hr : hR G (hm M)) (h : hV B (hm M)) (b1 : 0 ≤ b) (b2 : b < 9) : ∃ n : Int, 0 ≤ n ∧ n ≤ 360 ∧ fM_covered M (hI b) = some (hI n) ∧ n = sm (lenL (hm M) b) (hm M 2).toNat := by
  have hc2 := h.1.2.2.1
  have e0 := cov_sum (b := b) h (hm M 2).toNat (by omega)
  have hrr := sm_r (p := fun m => chi (cov (hm M) b m (hm M 2).toNat)) (c := 1) 360 (fun i hi => by
    by_cases c : cov (hm M) b i (hm M 2).toNat
    · show 0 ≤ chi _ ∧ chi _ ≤ 1
      rw [chi_t c]; omega
    · show 0 ≤ chi _ ∧ chi _ ≤ 1
      rw [chi_f c]; omega)
  have hrr1 : 0 ≤ sm (fun m => chi (cov (hm M) b m (hm M 2).toNat)) 360 ∧ sm (fun m => chi (cov (hm M) b m (hm M 2).toNat)) 360 ≤ 360 := by
    have e : (1 : Int) * ((360 : Nat) : Int) = 360 := rfl
    rw [e] at hrr
    exact hrr
  refine ⟨sm (fun m => chi (cov (hm M) b m (hm M 2).toNat)) 360, hrr1.1, hrr1.2, ?_, e0⟩
  refine it_sum (by omega) (fun i c hi => ?_) (fun c => ?_)
  · obtain ⟨u, eu, hu0⟩ := m_on (m := (i : Int)) h b1 b2 (by omega) (by omega)
    unfold fM_covered_b4 fM_covered_j27
    have ci : (i : Int) < 360 := by omega
    rcases hu0 with ⟨u1, u2, u3, -⟩ | ⟨rfl, u3⟩
    · have un : ¬ u = -1 := by omega
      have ec : chi (cov (hm M) b i (hm M 2).toNat) = 1 := chi_t ⟨u, u1, by omega, u3⟩
      simp (disch := omega) only [↓reduceIte, Int.reduceEq, Int.reduceLT, bnd_s, bnd2_s, bnd3_s, hI_lit, hL_lit, hI_add, hI_sub, hI_mul, hI_neg, hI_lt, hI_eq, if_true, if_false, eq_self_iff_true, true_and, and_true, false_and, and_false, decide_eq_true_eq, not_true, not_false_iff, Bool.false_eq_true, Bool.true_eq_false, ci, eu, un, tr_t, ec]
    · have ec : chi (cov (hm M) b i (hm M 2).toNat) = 0 := chi_f (fun ⟨k, k1, k2, k3⟩ => u3 k k1 (by omega) k3)
      simp (disch := omega) only [↓reduceIte, Int.reduceEq, Int.reduceLT, bnd_s, bnd2_s, bnd3_s, hI_lit, hL_lit, hI_add, hI_sub, hI_mul, hI_neg, hI_lt, hI_eq, if_true, if_false, eq_self_iff_true, true_and, and_true, false_and, and_false, decide_eq_true_eq, not_true, not_false_iff, Bool.false_eq_true, Bool.true_eq_false, ci, eu, tr_f, ec]
  · unfold fM_covered_b4
    have e : ¬ ((360 : Nat) : Int) < 360 := by omega
    simp (disch := omega) only [↓reduceIte, Int.reduceEq, Int.reduceLT, bnd_s, bnd2_s, bnd3_s, hI_lit, hL_lit, hI_add, hI_sub, hI_mul, hI_neg, hI_lt, hI_eq, if_true, if_false, eq_self_iff_true, true_and, and_true, false_and, and_false, decide_eq_true_eq, not_true, not_false_iff, Bool.false_eq_true, Bool.true_eq_false, e]
theorem q_labelShare (hg : hG B (Γ 10) (hm M)) (x1 : -2147483648 ≤ x) (x2 : x < 2147483648) : (∃ v u, fX_labelShare Γ (hI x) = some (.inl v) ∧ fM_labelShare M (hI x) = some (v, wmF M 0 0) ∧ zf2d v = some u ∧ Op.cmpValue (FP.dcmp u u) .l = 0) ∨ (fX_labelShare Γ (hI x) = some (.inr eA) ∧ fM_labelShare M (hI x) = some (FP.fconst0, wmF M 0 1)) := by
  obtain ⟨hr, h, -⟩ := hg
  have hc2 := h.1.2.2.1
  unfold fX_labelShare fM_labelShare
  by_cases c : 0 ≤ x ∧ x < 9
  · obtain ⟨n, n1, n2, e1, e2⟩ := t_covered (M := wmF M 0 0) (G := Γ 10) hr h c.1 c.2
    obtain ⟨v, u, ev, eu, ew⟩ := finF_s n1 n2
    have e2' : n = sm (lenL (hm M) x) (hm M 2).toNat := e2
    have key : ∃ r, iter (fun s => fX_labelShare_b8 Γ (hI x) s.1 s.2) fu (hI 0, hI 0) = some r ∧ r = .inl v := by
      refine it_one (hm M 2).toNat (fun i s => s = (hI (sm (lenL (hm M) x) i), hI i)) _ (by omega) rfl ?_
      rintro i s hi rfl
      have hi2 : i ≤ (hm M 2).toNat := hi
      unfold fX_labelShare_b8
      by_cases ci : (i : Int) < hm M 2
      · have k1 : (0 : Int) ≤ i := by omega
        have hl := h.2.2.2.2.1 i k1 ci
        unfold hVl at hl
        have ec : fL_coveredIn (Γ 10) (i : Int).toNat (hI x) = hI (lenL (hm M) x i) := by
          unfold fL_coveredIn lenL
          rw [r_lt hr k1 ci, r_l0 hr k1 ci, r_l1 hr k1 ci, r_l2 hr k1 ci, ieq (by omega) (by omega) (by omega) (by omega)]
          by_cases c1 : hm M (128 + 4 * (i : Int) + 3) = 1
          · rw [decide_eq_true c1, if_pos rfl, if_neg (by omega)]; rfl
          · rw [decide_eq_false c1, if_neg (by decide)]
            by_cases c3 : hm M (128 + 4 * (i : Int) + 0) = x
            · rw [if_pos c3, if_pos ⟨by omega, c3⟩, show (1 : Int32) = hI 1 from rfl, hI_sub, hI_add]
              exact congrArg hI (by omega)
            · rw [if_neg c3, if_neg (fun z => c3 z.2)]; rfl
        simp (disch := omega) only [↓reduceIte, Int.reduceEq, Int.reduceLT, bnd_s, bnd2_s, bnd3_s, hI_lit, hL_lit, hI_add, hI_sub, hI_mul, hI_neg, hI_lt, hI_eq, if_true, if_false, eq_self_iff_true, true_and, and_true, false_and, and_false, decide_eq_true_eq, not_true, not_false_iff, Bool.false_eq_true, Bool.true_eq_false, r_labels hr, ci, rix_hI, ec]
        exact Or.inl ⟨by omega, _, rfl, rfl⟩
      · have e9 : i = (hm M 2).toNat := by omega
        rw [e9, ← e2']
        have e3 : ¬ (((hm M 2).toNat : Nat) : Int) < hm M 2 := by omega
        simp (disch := omega) only [bnd_s, ↓reduceIte, hI_lt, r_labels hr, e3, ev]
        exact Or.inr ⟨_, rfl, rfl⟩
    obtain ⟨r, q, rfl⟩ := key
    refine Or.inl ⟨v, u, ?_, ?_, eu, ew⟩
    · rw [need_band_t c, bnx_l]; exact q
    · rw [Mband_d x1 x2, decide_eq_true c, goes_t, bnd2_s, if_pos rfl, e1, bnd_s, ev, bnd_s]
  · refine Or.inr ⟨?_, ?_⟩
    · rw [need_band_f x1 x2 c, bnx_r]
    · rw [Mband_d x1 x2, decide_eq_false c, goes_f]; rfl
end HHV

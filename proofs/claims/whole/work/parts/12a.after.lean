/-! WHAT COMES IF ONLY HOURS PASS -/
section HIA
variable {σ τ : Int → Int} {M M1 M2 : zM} {G Go G1 : zG} {z v w k B B1 b m d f x y : Int} {l : List Int} {I : zI} {Y : Nat → Int32} {Γ Γ1 : Nat → zG} {D : zD} {O : Nat → Int32}
theorem hS_pred (hs : hS B I Y Γ D O M) (hΓ : ∀ g, g ≠ 36 → Γ1 g = Γ g) (eh : hm M1 = hm M) (ef : ∀ k, k = 2 ∨ k = 10 ∨ k = 11 ∨ k = 18 ∨ k = 31 → mF M1 k = mF M k) (eb : mB M1 = mB M) (ea : ∀ a, a = 248 ∨ a = 250 ∨ a = 253 ∨ a = 260 → mA M1 a = mA M a) : hS B I Y Γ1 D O M1 := by
  obtain ⟨h1, ⟨u, t, a1, a2, a3, a4, a5, a6, a7, a8⟩, h3, h4, h5⟩ := hs
  refine ⟨by rw [hΓ 10 (by decide), eh]; exact h1, ⟨u, t, a1, a2, a3, a4, a5, a6, by rw [ef 18 (by omega)]; exact a7, fun i i1 i2 => ?_⟩, ⟨by rw [eb]; exact h3.1, fun z => ?_⟩, hIn_c (I1 := I) (ef 2 (by omega)) (ef 10 (by omega)) (ef 11 (by omega)) (ea 248 (by omega)) h4, hOu_c (ef 31 (by omega)) (ea 260 (by omega)) h5⟩
  · rw [hΓ _ (by omega)]
    unfold hrow
    rw [ea 253 (by omega)]; exact a8 i i1 i2
  · rw [eb] at z
    rw [hΓ 62 (by decide), ea 250 (by omega)]; exact h3.2 z
/-- laid by, and put back -/
theorem m_holds : ∃ g, fM_holds M = some (wmA M 252 g) ∧ hrw g 0 = hm M := by
  obtain ⟨g, e1, e2, e3⟩ := m_copy (M := M) (a := 249) (c := 252) (p := 0) (q := 0) (by decide) (by omega) (by decide) (by omega) (by decide) (by omega)
  refine ⟨g, ?_, e2⟩
  unfold fM_holds
  rw [show (0 : Int32) = hI 0 from rfl, e1, bnd_s]
theorem m_back {a : Int32} : ∃ g, fM_putBack M a = some (a, wmA M 249 g) ∧ hm (wmA M 249 g) = hrw (mA M 252) 0 := by
  obtain ⟨g, e1, e2, e3⟩ := m_copy (M := M) (a := 252) (c := 249) (p := 0) (q := 0) (by decide) (by omega) (by decide) (by omega) (by decide) (by omega)
  refine ⟨g, ?_, by unfold hm; rw [mA_same]; exact e2⟩
  unfold fM_putBack
  rw [show (0 : Int32) = hI 0 from rfl, e1, bnd_s]
def PO {α : Type} (B : Int) (I : zI) (Y : Nat → Int32) (Γ : Nat → zG) (D : zD) (O : Nat → Int32) (M : zM) (E1 E2 : String) (a : Option ((α ⊕ String) × (Nat → zG))) (b : Option (α × zM)) (z : α) : Prop :=
  (∃ p Γ1 M1, a = some (.inl p, Γ1) ∧ b = some (p, M1) ∧ mF M1 0 = 0 ∧ hS B I Y Γ1 D O M1) ∨ (a = some (.inr E1, Γ) ∧ b = some (z, wmF M 0 1)) ∨ (a = some (.inr E2, Γ) ∧ b = some (z, wmF M 0 2) ∧ E2 ≠ "")
theorem o_after (hs : hS B I Y Γ D O M) (hB : B < 900000000) (x1 : -2147483648 ≤ x) (x2 : x < 2147483648) (y1 : -2147483648 ≤ y) (y2 : y < 2147483648) : PO B I Y Γ D O M eX eA (fX_meridianAfter Γ (hI x) (hI y)) (fM_meridianAfter M (hI x) (hI y)) 0 := by
  have hs0 := hs
  obtain ⟨⟨hr, h, hgo⟩, -⟩ := hs
  have h1 := h.1.2.1
  unfold fX_meridianAfter fM_meridianAfter fX_meridianAfter_j16
  rw [Mspot_d h x1 x2, show (0 : Int64) = hL 0 from rfl, show (300 : Int64) = hL 300 from rfl, isIn_e y1 y2 (by omega) (by omega) (by omega) (by omega)]
  by_cases c : 0 ≤ x ∧ x < hm M 1
  · rw [need_spot_t hr h c, bnx_l, decide_eq_true c, show (0 : Int32) = hI 0 from rfl, show (300 : Int32) = hI 300 from rfl, ilt y1 y2 (by omega) (by omega), ilt (by omega) (by omega) y1 y2]
    by_cases cy : 0 ≤ y ∧ y ≤ 300
    · obtain ⟨G5, c1, c2⟩ := t_copy (G := Γ 36) hr h.1.1.2 h.1.2.1 h.1.2.2.1
      obtain ⟨g, k1, k2⟩ := m_holds (M := wmF M 0 0)
      have ehm : hm (wmA (wmF M 0 0) 252 g) = hm M := by unfold hm; rw [mA_ne (by decide), mA_wF]
      obtain ⟨t, G7, M7, e1, e2, e3, e4, e5, e6⟩ := t_pass (M := wmA (wmF M 0 0) 252 g) (n := y) (by rw [ehm]; exact c2) (by rw [ehm]; exact h) (by omega) (by omega) (by omega)
      have q1 : hm M7 1 = hm M 1 := by rw [e6 1 (by omega) (by omega) (by omega) (by omega), ehm]
      obtain ⟨g2, b1, b2⟩ := m_back (M := wmF M7 29 (hI t)) (a := hI (hm M7 (38 + 9 * x + 4)))
      have e252 : hrw (mA (wmF M7 29 (hI t)) 252) 0 = hm M := by
        rw [mA_wF, e5.2.2.2 252 (by decide), mA_same, k2]; rfl
      rw [e252] at b2
      refine Or.inl ⟨hI (hm M7 (38 + 9 * x + 4)), gup (gup Γ 36 G5) 36 G7, _, ?_, ?_, ?_, hS_pred hs0 (fun g hg => by rw [gup_ne hg, gup_ne hg]) b2 (fun k hk => ?_) ?_ (fun a ha => ?_)⟩
      · rw [if_neg (by omega), if_neg (by omega), c1, bnd_s, gup_same, e1, bnd2_s, rix_hI c.1 (by omega) (by omega), bnd_s, gup_same, r_s3 e3 c.1 (by omega)]
      · rw [decide_eq_true cy, both_tt, bnd2_s, if_pos rfl, k1, bnd_s, e2, bnd2_s, bnd_s, show (4 : Int32) = hI 4 from rfl, m_of c.1 (by omega) (by omega) (by omega), bnd_s, hm_L, b1, bnd2_s]
      · rw [mF_wA, mF_ne (by decide), e5.1 0 (by decide), mF_wA, mF_same]
      · rw [mF_wA, mF_ne (by omega), e5.1 k (by omega), mF_wA, mF_ne (by omega)]
      · show mB M7 = _
        rw [e5.2.2.1]; rfl
      · rw [mA_ne (by omega), mA_wF, e5.2.2.2 a (by omega), mA_ne (by omega), mA_wF]
    · refine Or.inr (Or.inr ⟨?_, ?_, by decide⟩)
      · by_cases c1 : y < 0
        · rw [if_pos c1]; rfl
        · rw [if_neg c1, if_pos (by omega)]; rfl
      · rw [decide_eq_false cy, both_tf]; rfl
  · refine Or.inr (Or.inl ⟨?_, ?_⟩)
    · rw [need_spot_f hr h x1 x2 c, bnx_r]
    · rw [decide_eq_false c, both_f]; rfl
theorem it_su {σ ρ : Type} {b : σ → Option (σ ⊕ ρ)} {s s' : σ} {n : Nat} (h : b s = some (.inl s')) : iter b (n + 1) s = iter b n s' := by
  simp only [iter, h]
theorem it_ex {σ ρ : Type} {b : σ → Option (σ ⊕ ρ)} {s : σ} {r : ρ} {n : Nat} (h : b s = some (.inr r)) : iter b (n + 1) s = some r := by
  simp only [iter, h]
theorem t_until {M0 : zM} {Γ0 : Nat → zG} {c0 : Int} (x1 : 0 ≤ x) (x2 : x < hm M0 0) (hB : B < 900000000) (ec : gF (Γ0 10) 0 2 = hI c0) (c1 : 0 ≤ c0) (c2 : c0 ≤ B) : ∀ (m i : Nat) (Γ1 : Nat → zG) (M1 : zM) (f1 f2 : Nat), i + m = 300 → m + 1 ≤ f1 → m + 2 ≤ f2 → (∃ G, hR G (hm M1)) → hC (Γ1 36) (hm M1) → hV (B + i) (hm M1) → hm M1 4 = c0 + i → (∀ g, g ≠ 36 → Γ1 g = Γ0 g) → hfr M0 M1 → hm M1 0 = hm M0 0 → hm M1 (26 + x) ≠ 0 →
    ∃ v Γ2 M2, iter (fun s => fX_hoursUntilTear_b42 (hI x) s.1 s.2) f1 (Γ1, hI (i + 1)) = some (.inl (hI v), Γ2) ∧ iter (fun s => fM_untilTorn_b2 (hI x) s.1 s.2) f2 (M1, hI i) = some (hI v, M2) ∧ (∀ g, g ≠ 36 → Γ2 g = Γ0 g) ∧ hfr M0 M2 := by
  intro m
  induction m with
  | zero =>
    intro i Γ1 M1 f1 f2 h1 h2 h3 ⟨G, hr⟩ hc hv e4 eg ef e0 nt
    obtain ⟨f1, rfl⟩ : ∃ k, f1 = k + 1 := ⟨f1 - 1, by omega⟩
    obtain ⟨f2, rfl⟩ : ∃ k, f2 = k + 1 + 1 := ⟨f2 - 2, by omega⟩
    have hv0 := hv.1.1
    obtain ⟨n, G2, M2, q1, q2, q3, q4, q5, q6, q7, q8⟩ := t_hour hr hv (by omega)
    refine ⟨-1, Γ1, wmF M2 29 (hI n), it_ex ?_, ?_, eg, hfr_L (hfr_tr ef q5)⟩
    · unfold fX_hoursUntilTear_b42
      have ci : (300 : Int) < i + 1 := by omega
      simp (disch := omega) only [↓reduceIte, Int.reduceEq, Int.reduceLT, bnd_s, bnd2_s, bnd3_s, hI_lit, hL_lit, hI_add, hI_sub, hI_mul, hI_neg, hI_lt, hI_eq, if_true, if_false, eq_self_iff_true, true_and, and_true, false_and, and_false, decide_eq_true_eq, not_true, not_false_iff, Bool.false_eq_true, Bool.true_eq_false, ci]
    · have s1 : fM_untilTorn_b2 (hI x) (M1, hI (i : Int)).1 (M1, hI (i : Int)).2 = some (.inl (wmF M2 29 (hI n), hI ((i : Int) + 1))) := by
        unfold fM_untilTorn_b2
        have ci : ¬ (300 : Int) < i := by omega
        simp (disch := omega) only [↓reduceIte, Int.reduceEq, Int.reduceLT, bnd_s, bnd2_s, bnd3_s, hI_lit, hL_lit, hI_add, hI_sub, hI_mul, hI_neg, hI_lt, hI_eq, if_true, if_false, eq_self_iff_true, true_and, and_true, false_and, and_false, decide_eq_true_eq, not_true, not_false_iff, Bool.false_eq_true, Bool.true_eq_false, ci, m_torn, nt, decide_false, q2]
      have s2 : fM_untilTorn_b2 (hI x) (wmF M2 29 (hI n), hI ((i : Int) + 1)).1 (wmF M2 29 (hI n), hI ((i : Int) + 1)).2 = some (.inr (hI (-1), wmF M2 29 (hI n))) := by
        unfold fM_untilTorn_b2
        have ci : (300 : Int) < i + 1 := by omega
        simp (disch := omega) only [↓reduceIte, Int.reduceEq, Int.reduceLT, bnd_s, bnd2_s, bnd3_s, hI_lit, hL_lit, hI_add, hI_sub, hI_mul, hI_neg, hI_lt, hI_eq, if_true, if_false, eq_self_iff_true, true_and, and_true, false_and, and_false, decide_eq_true_eq, not_true, not_false_iff, Bool.false_eq_true, Bool.true_eq_false, ci]
      rw [it_su (b := fun s => fM_untilTorn_b2 (hI x) s.1 s.2) s1]
      exact it_ex s2
  | succ m ih =>
    intro i Γ1 M1 f1 f2 h1 h2 h3 ⟨G, hr⟩ hc hv e4 eg ef e0 nt
    obtain ⟨f1, rfl⟩ : ∃ k, f1 = k + 1 := ⟨f1 - 1, by omega⟩
    obtain ⟨f2, rfl⟩ : ∃ k, f2 = k + 1 + 1 := ⟨f2 - 2, by omega⟩
    have hv0 := hv.1.1
    obtain ⟨n, G2, M2, q1, q2, q3, q4, q5, q6, q7, q8⟩ := t_hour hr hv (by omega)
    obtain ⟨Gs1, w1, w2⟩ := q8 (Γ1 36) hc
    have e02 : hm M2 0 = hm M1 0 := q6 0 (by omega) (by omega) (by omega) (by omega)
    have hL : hm (wmF M2 29 (hI n)) = hm M2 := rfl
    have s1 : fM_untilTorn_b2 (hI x) (M1, hI (i : Int)).1 (M1, hI (i : Int)).2 = some (.inl (wmF M2 29 (hI n), hI ((i : Int) + 1))) := by
      unfold fM_untilTorn_b2
      have ci : ¬ (300 : Int) < i := by omega
      simp (disch := omega) only [↓reduceIte, Int.reduceEq, Int.reduceLT, bnd_s, bnd2_s, bnd3_s, hI_lit, hL_lit, hI_add, hI_sub, hI_mul, hI_neg, hI_lt, hI_eq, if_true, if_false, eq_self_iff_true, true_and, and_true, false_and, and_false, decide_eq_true_eq, not_true, not_false_iff, Bool.false_eq_true, Bool.true_eq_false, ci, m_torn, nt, decide_false, q2]
    have ci : ¬ (300 : Int) < i + 1 := by omega
    have eW : fG_isWearing (gF (Γ1 10) 0 2 + hI ((i : Int) + 1)) = decide ((hm M1 4 + 1) % 6 = 0) := by
      rw [eg 10 (by decide), ec, hI_add, wearing_d (by omega) (by omega)]
      rw [e4, show c0 + ((i : Int) + 1) = c0 + i + 1 by omega]
    have ecast : (((i + 1 : Nat)) : Int) = (i : Int) + 1 := by omega
    by_cases cw : (hm M1 4 + 1) % 6 = 0
    · rw [if_pos cw] at w1
      have et := c_torn (k := x) w2 x1 (by omega) (by omega) q4
      by_cases ct : hm M2 (26 + x) = 0
      · refine ⟨(i : Int) + 1, gup Γ1 36 Gs1, wmF M2 29 (hI n), it_ex ?_, ?_, fun g hg => by rw [gup_ne hg]; exact eg g hg, hfr_L (hfr_tr ef q5)⟩
        · unfold fX_hoursUntilTear_b42
          simp (disch := omega) only [↓reduceIte, Int.reduceEq, Int.reduceLT, bnd_s, bnd2_s, bnd3_s, hI_lit, hL_lit, hI_add, hI_sub, hI_mul, hI_neg, hI_lt, hI_eq, if_true, if_false, eq_self_iff_true, true_and, and_true, false_and, and_false, decide_eq_true_eq, not_true, not_false_iff, Bool.false_eq_true, Bool.true_eq_false, ci, eW, cw, decide_true, w1, gup_same, et, ct]
        · have s2 : fM_untilTorn_b2 (hI x) (wmF M2 29 (hI n), hI ((i : Int) + 1)).1 (wmF M2 29 (hI n), hI ((i : Int) + 1)).2 = some (.inr (hI ((i : Int) + 1), wmF M2 29 (hI n))) := by
            unfold fM_untilTorn_b2
            simp (disch := omega) only [↓reduceIte, Int.reduceEq, Int.reduceLT, bnd_s, bnd2_s, bnd3_s, hI_lit, hL_lit, hI_add, hI_sub, hI_mul, hI_neg, hI_lt, hI_eq, if_true, if_false, eq_self_iff_true, true_and, and_true, false_and, and_false, decide_eq_true_eq, not_true, not_false_iff, Bool.false_eq_true, Bool.true_eq_false, ci, m_torn, hL, ct, decide_true]
          rw [it_su (b := fun s => fM_untilTorn_b2 (hI x) s.1 s.2) s1]
          exact it_ex s2
      · have s3 : fX_hoursUntilTear_b42 (hI x) (Γ1, hI ((i : Int) + 1)).1 (Γ1, hI ((i : Int) + 1)).2 = some (.inl (gup Γ1 36 Gs1, hI ((i : Int) + 1 + 1))) := by
          unfold fX_hoursUntilTear_b42
          simp (disch := omega) only [↓reduceIte, Int.reduceEq, Int.reduceLT, bnd_s, bnd2_s, bnd3_s, hI_lit, hL_lit, hI_add, hI_sub, hI_mul, hI_neg, hI_lt, hI_eq, if_true, if_false, eq_self_iff_true, true_and, and_true, false_and, and_false, decide_eq_true_eq, not_true, not_false_iff, Bool.false_eq_true, Bool.true_eq_false, ci, eW, cw, decide_true, w1, gup_same, et, ct, decide_false]
        obtain ⟨v, Γ2, M3, r1, r2, r3, r4⟩ := ih (i + 1) (gup Γ1 36 Gs1) (wmF M2 29 (hI n)) f1 (f2 + 1) (by omega) (by omega) (by omega) ⟨G2, q3⟩ (by rw [gup_same]; exact w2) (by rw [ecast, ← Int.add_assoc]; exact q4) (by rw [hL, q7, e4, ecast]; omega) (fun g hg => by rw [gup_ne hg]; exact eg g hg) (hfr_L (hfr_tr ef q5)) (by rw [hL, e02, e0]) ct
        refine ⟨v, Γ2, M3, ?_, ?_, r3, r4⟩
        · rw [it_su (b := fun s => fX_hoursUntilTear_b42 (hI x) s.1 s.2) s3]
          rw [ecast] at r1
          exact r1
        · rw [it_su (b := fun s => fM_untilTorn_b2 (hI x) s.1 s.2) s1]
          rw [ecast] at r2
          exact r2
    · rw [if_neg cw] at w1
      cases w1
      have a1 := (hc.2 x x1 (by omega)).2.2
      have a2 := (w2.2 x x1 (by omega)).2.2
      have b1 := (hv.2.2.1 x x1 (by omega)).2.1
      have b2 := (q4.2.2.1 x x1 (by omega)).2.1
      have ct : hm M2 (26 + x) ≠ 0 := by
        rw [a1, hI_eq (by omega) (by omega) (by omega) (by omega)] at a2
        omega
      have s3 : fX_hoursUntilTear_b42 (hI x) (Γ1, hI ((i : Int) + 1)).1 (Γ1, hI ((i : Int) + 1)).2 = some (.inl (Γ1, hI ((i : Int) + 1 + 1))) := by
        unfold fX_hoursUntilTear_b42
        simp (disch := omega) only [↓reduceIte, Int.reduceEq, Int.reduceLT, bnd_s, bnd2_s, bnd3_s, hI_lit, hL_lit, hI_add, hI_sub, hI_mul, hI_neg, hI_lt, hI_eq, if_true, if_false, eq_self_iff_true, true_and, and_true, false_and, and_false, decide_eq_true_eq, not_true, not_false_iff, Bool.false_eq_true, Bool.true_eq_false, ci, eW, cw, decide_false]
      obtain ⟨v, Γ2, M3, r1, r2, r3, r4⟩ := ih (i + 1) Γ1 (wmF M2 29 (hI n)) f1 (f2 + 1) (by omega) (by omega) (by omega) ⟨G2, q3⟩ w2 (by rw [ecast, ← Int.add_assoc]; exact q4) (by rw [hL, q7, e4, ecast]; omega) eg (hfr_L (hfr_tr ef q5)) (by rw [hL, e02, e0]) ct
      refine ⟨v, Γ2, M3, ?_, ?_, r3, r4⟩
      · rw [it_su (b := fun s => fX_hoursUntilTear_b42 (hI x) s.1 s.2) s3]
        rw [ecast] at r1
        exact r1
      · rw [it_su (b := fun s => fM_untilTorn_b2 (hI x) s.1 s.2) s1]
        rw [ecast] at r2
        exact r2
theorem o_until (hs : hS B I Y Γ D O M) (hB : B < 900000000) (x1 : -2147483648 ≤ x) (x2 : x < 2147483648) : PO B I Y Γ D O M eX "" (fX_hoursUntilTear Γ (hI x)) (fM_hoursUntilTear M (hI x)) 0 := by
  have hs0 := hs
  obtain ⟨⟨hr, h, hgo⟩, -⟩ := hs
  have h0 := h.1.1
  have h4 := h.1.2.2.2
  unfold fX_hoursUntilTear fM_hoursUntilTear
  rw [Mgore_d h x1 x2]
  by_cases c : 0 ≤ x ∧ x < hm M 0
  · rw [need_gore_t hr h c, bnx_l, decide_eq_true c, goes_t, bnd2_s, if_pos rfl, g_torn hr c.1 c.2 (by omega) h, bnd_s]
    obtain ⟨g, k1, k2⟩ := m_holds (M := wmF M 0 0)
    have ehm : hm (wmA (wmF M 0 0) 252 g) = hm M := by unfold hm; rw [mA_ne (by decide), mA_wF]
    -- put back whatever came
    have fin : ∀ (v : Int) (Γ2 : Nat → zG) (M2 : zM) (A : Option ((Int32 ⊕ String) × (Nat → zG))), A = some (.inl (hI v), Γ2) → iter (fun s => fM_untilTorn_b2 (hI x) s.1 s.2) fu (wmA (wmF M 0 0) 252 g, hI 0) = some (hI v, M2) → (∀ g, g ≠ 36 → Γ2 g = Γ g) → hfr (wmA (wmF M 0 0) 252 g) M2 → PO B I Y Γ D O M eX "" A (bnd (fM_holds (wmF M 0 0)) fun M4 => bnd2 (fM_untilTorn M4 (hI x)) fun v7 M6 => bnd2 (fM_putBack M6 v7) fun v10 M9 => some (v10, M9)) 0 := by
      intro v Γ2 M2 A eA2 e2 eg ef
      obtain ⟨g2, b1, b2⟩ := m_back (M := M2) (a := hI v)
      have e252 : hrw (mA M2 252) 0 = hm M := by
        rw [ef.2.2.2 252 (by decide), mA_same, k2]; rfl
      rw [e252] at b2
      refine Or.inl ⟨hI v, Γ2, wmA M2 249 g2, eA2, ?_, ?_, hS_pred hs0 eg b2 (fun k hk => ?_) ?_ (fun a ha => ?_)⟩
      · unfold fM_untilTorn
        rw [k1, bnd_s, show iter (fun s => fM_untilTorn_b2 (hI x) s.1 s.2) fu (wmA (wmF M 0 0) 252 g, 0) = some (hI v, M2) from e2, bnd2_s, b1, bnd2_s]
      · rw [mF_wA, ef.1 0 (by decide), mF_wA, mF_same]
      · rw [mF_wA, ef.1 k (by omega), mF_wA, mF_ne (by omega)]
      · show mB M2 = _
        rw [ef.2.2.1]; rfl
      · rw [mA_ne (by omega), ef.2.2.2 a (by omega), mA_ne (by omega), mA_wF]
    by_cases ct : hm M (26 + x) = 0
    · refine fin 0 Γ (wmA (wmF M 0 0) 252 g) _ ?_ (it_exit ?_) (fun _ _ => rfl) hfr_rf
      · rw [decide_eq_true ct, if_pos rfl]; rfl
      · have ehm' : hm (wmA (wmF M 0 (hI 0)) 252 g) = hm M := ehm
        unfold fM_untilTorn_b2
        simp (disch := omega) only [↓reduceIte, Int.reduceEq, Int.reduceLT, bnd_s, bnd2_s, bnd3_s, hI_lit, hL_lit, hI_add, hI_sub, hI_mul, hI_neg, hI_lt, hI_eq, if_true, if_false, eq_self_iff_true, true_and, and_true, false_and, and_false, decide_eq_true_eq, not_true, not_false_iff, Bool.false_eq_true, Bool.true_eq_false, m_torn, ehm', ct, decide_true]
    · obtain ⟨G5, c1, c2, -⟩ := t_copyC (G := Γ 36) (hR_C hr) h0.2
      obtain ⟨v, Γ2, M2, r1, r2, r3, r4⟩ := t_until (x := x) (B := B) (M0 := wmA (wmF M 0 0) 252 g) (Γ0 := gup Γ 36 G5) (c0 := hm M 4) c.1 (by rw [ehm]; exact c.2) hB (by rw [gup_ne (by decide)]; exact r_clock hr) h4.1 h4.2 300 0 (gup Γ 36 G5) (wmA (wmF M 0 0) 252 g) fu fu (by omega) (by unfold fu; omega) (by unfold fu; omega) ⟨Γ 10, by rw [ehm]; exact hr⟩ (by rw [gup_same, ehm]; exact c2) (by rw [ehm]; exact hV_le (by omega) h) (by rw [ehm]; omega) (fun _ _ => rfl) hfr_rf rfl (by rw [ehm]; exact ct)
      refine fin v Γ2 M2 _ ?_ r2 (fun g hg => by rw [r3 g hg, gup_ne hg]) r4
      rw [decide_eq_false ct, if_neg (by decide), c1, bnd_s]
      exact r1
  · refine Or.inr (Or.inl ⟨?_, ?_⟩)
    · rw [need_gore_f hr h x1 x2 c, bnx_r]
    · rw [decide_eq_false c, goes_f]; rfl
end HIA

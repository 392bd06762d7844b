/-! THE WHOLE STATE of both sides between two calls, and the calls that change it -/
section HHW
variable {σ τ : Int → Int} {M M1 M2 : zM} {G Go G1 : zG} {z v w k B B1 b m d f x y : Int} {l : List Int} {I : zI} {Y : Nat → Int32} {Γ : Nat → zG} {D : zD} {O : Nat → Int32}
def hIn (I : zI) (M : zM) : Prop := (∃ n : Int, 0 ≤ n ∧ n ≤ 600 ∧ iF I 1 = hI n ∧ mF M 2 = hI n ∧ hBy I M n) ∧ iF I 8 = mF M 10 ∧ iF I 9 = mF M 11
def hS (B : Int) (I : zI) (Y : Nat → Int32) (Γ : Nat → zG) (D : zD) (O : Nat → Int32) (M : zM) : Prop :=
  hG B (Γ 10) (hm M) ∧ hH B Y Γ M ∧ (D.1 = mB M ∧ (mB M = true → hG B (Γ 62) (hrw (mA M 250) 0))) ∧ hIn I M ∧ hOu D O M
theorem hH_le (hb : B ≤ B1) (h : hH B Y Γ M) : hH B1 Y Γ M := by
  obtain ⟨u, t, a, b, c, d, e, f, g, r⟩ := h
  exact ⟨u, t, a, b, c, d, e, f, g, fun i i1 i2 => hG_le hb (r i i1 i2)⟩
theorem hS_le (hb : B ≤ B1) (h : hS B I Y Γ D O M) : hS B1 I Y Γ D O M := ⟨hG_le hb h.1, hH_le hb h.2.1, ⟨h.2.2.1.1, fun z => hG_le hb (h.2.2.1.2 z)⟩, h.2.2.2⟩
theorem hS_0 {c : Int32} (h : hS B I Y Γ D O M) : hS B I Y Γ D O (wmF M 0 c) := by
  obtain ⟨h1, ⟨u, t, a1, a2, a3, a4, a5, a6, a7, a8⟩, h3, ⟨⟨n, b1, b2, b3, b4, b5⟩, b6, b7⟩, ⟨p, c1, c2, c3, c4, c5⟩⟩ := h
  exact ⟨h1, ⟨u, t, a1, a2, a3, a4, a5, a6, by rw [mF_ne (by decide)]; exact a7, a8⟩, h3, ⟨⟨n, b1, b2, b3, by rw [mF_ne (by decide)]; exact b4, b5⟩, by rw [mF_ne (by decide)]; exact b6, by rw [mF_ne (by decide)]; exact b7⟩, ⟨p, c1, c2, c3, by rw [mF_ne (by decide)]; exact c4, c5⟩⟩
theorem hIn_c {I1 : zI} (e2 : mF M1 2 = mF M 2) (e10 : mF M1 10 = mF M 10) (e11 : mF M1 11 = mF M 11) (ea : mA M1 248 = mA M 248) (h : hIn I M) : hIn I M1 := by
  obtain ⟨⟨n, b1, b2, b3, b4, b5⟩, b6, b7⟩ := h
  refine ⟨⟨n, b1, b2, b3, by rw [e2]; exact b4, fun k k1 k2 => ?_⟩, by rw [e10]; exact b6, by rw [e11]; exact b7⟩
  rw [ea]; exact b5 k k1 k2
theorem hOu_c (e : mF M1 31 = mF M 31) (ea : mA M1 260 = mA M 260) (h : hOu D O M) : hOu D O M1 := by
  obtain ⟨p, c1, c2, c3, c4, c5⟩ := h
  exact ⟨p, c1, c2, c3, by rw [e]; exact c4, fun k k1 k2 => by rw [ea]; exact c5 k k1 k2⟩
/-- remembered, changed, kept -/
theorem t_done (hs : hS B I Y Γ D O M) : ∃ Y1 Γ1 M4, fY_remember Y Γ 10 = some (Y1, Γ1) ∧ fM_laysAside (wmF M 0 0) = some M4 ∧ Γ1 10 = Γ 10 ∧ hm M4 = hm M ∧ mF M4 2 = mF M 2 ∧ mF M4 10 = mF M 10 ∧ mF M4 11 = mF M 11 ∧ mA M4 248 = mA M 248 ∧ (∀ a, a ≠ 251 → mA M4 a = mA M a) ∧ (∀ k, mF M4 k = mF (wmF M 0 0) k) ∧ mN M4 = mN M ∧
    ∀ (B1 : Int) (G' : zG) (I1 : zI) (M6 : zM), B ≤ B1 → hG B1 G' (hm M6) → (∀ k, k ≠ 29 → k ≠ 2 → k < 20 ∨ k = 31 → (k < 3 ∨ 9 < k) → mF M6 k = mF M4 k) → mB M6 = mB M4 → (∀ a, a ≠ 249 → a < 254 ∨ 259 < a → mA M6 a = mA M4 a) → hIn I1 M6 → ∃ M9, fM_keeps M6 = some M9 ∧ mF M9 0 = mF M6 0 ∧ hS B1 I1 Y1 (gup Γ1 10 G') D O M9 := by
  obtain ⟨h1, h2, h3, h4, h5⟩ := hs
  have h2' : hH B Y Γ (wmF M 0 0) := by
    obtain ⟨u, t, a1, a2, a3, a4, a5, a6, a7, a8⟩ := h2
    exact ⟨u, t, a1, a2, a3, a4, a5, a6, by rw [mF_ne (by decide)]; exact a7, a8⟩
  obtain ⟨Y1, Γ1, M4, e1, e2, e3, e4, e5, e6, e7, e8, e9⟩ := t_undoable h2' h1
  refine ⟨Y1, Γ1, M4, e1, e2, e3 10 (by omega), e4, ?_, ?_, ?_, ?_, fun a ha => by rw [e8 a ha, mA_wF], e5, e6, ?_⟩
  · rw [e5, mF_ne (by decide)]
  · rw [e5, mF_ne (by decide)]
  · rw [e5, mF_ne (by decide)]
  · rw [e8 248 (by decide), mA_wF]
  · intro B1 G' I1 M6 hb hg hf hB ha hin
    obtain ⟨M9, k1, k2, k3, k4, k5, k6⟩ := e9 M6 (hf 18 (by decide) (by decide) (by omega) (by omega)) (ha 251 (by decide) (by omega)) (ha 253 (by decide) (by omega))
    have ehm : hm M9 = hm M6 := by unfold hm; rw [k6 249 (by decide)]
    refine ⟨M9, k1, k3 0 (by decide), ?_, hH_le hb (k2 G'), ⟨?_, ?_⟩, ?_, ?_⟩
    · rw [gup_same, ehm]; exact hg
    · rw [k5, hB, e7]; exact h3.1
    · intro hz
      rw [k5, hB, e7] at hz
      have := h3.2 hz
      rw [gup_ne (by decide), e3 62 (by omega), k6 250 (by decide), ha 250 (by decide) (by omega), e8 250 (by decide), mA_wF]
      exact hG_le hb this
    · exact hIn_c (I1 := I1) (k3 2 (by decide)) (k3 10 (by decide)) (k3 11 (by decide)) (k6 248 (by decide)) hin
    · refine hOu_c ?_ ?_ h5
      · rw [k3 31 (by decide), hf 31 (by decide) (by decide) (by omega) (by omega), e5, mF_ne (by decide)]
      · rw [k6 260 (by decide), ha 260 (by decide) (by omega), e8 260 (by decide), mA_wF]
/-- a change done or refused -/
def CO (B1 : Int) (I : zI) (Y : Nat → Int32) (Γ : Nat → zG) (D : zD) (O : Nat → Int32) (M : zM) (E1 E2 E3 : String) (a : Option ((Int32 ⊕ String) × (Nat → Int32) × (Nat → zG))) (b : Option (Int32 × zM)) : Prop :=
  (∃ p Y1 Γ1 M1, a = some (.inl p, Y1, Γ1) ∧ b = some (p, M1) ∧ mF M1 0 = 0 ∧ hS B1 I Y1 Γ1 D O M1) ∨ (a = some (.inr E1, Y, Γ) ∧ b = some (0, wmF M 0 1)) ∨ (a = some (.inr E2, Y, Γ) ∧ b = some (0, wmF M 0 2) ∧ E2 ≠ "") ∨ (a = some (.inr E3, Y, Γ) ∧ b = some (0, wmF M 0 3) ∧ E3 ≠ "")
theorem ref_1 : fX_refuse (hI 1) = some (.inr eX) := by unfold fX_refuse; rfl
theorem ref_2 : fX_refuse (hI 2) = some (.inr eA) := by unfold fX_refuse; rfl
theorem ref_3 : fX_refuse (hI 3) = some (.inr eS) := by unfold fX_refuse; rfl
theorem ref_0 : fX_refuse (hI 0) = some (.inl ()) := by unfold fX_refuse; rfl
theorem kept_e {M9 : zM} {a : Int32} (h : fM_keeps M = some M9) : fM_kept M a = some (a, M9) := by
  unfold fM_kept
  rw [h, bnd_s]
theorem fr_of (h : hfr M M1) : (∀ k, k ≠ 29 → k ≠ 2 → k < 20 ∨ k = 31 → (k < 3 ∨ 9 < k) → mF M1 k = mF M k) ∧ mB M1 = mB M ∧ (∀ a, a ≠ 249 → a < 254 ∨ 259 < a → mA M1 a = mA M a) := ⟨fun k a _ _ _ => h.1 k a, h.2.2.1, fun a b _ => h.2.2.2 a b⟩
theorem in_of (h : hfr M M1) (hi : hIn I M) : hIn I M1 := hIn_c (I1 := I) (h.1 2 (by decide)) (h.1 10 (by decide)) (h.1 11 (by decide)) (h.2.2.2 248 (by decide)) hi
theorem o_pass (hs : hS B I Y Γ D O M) (hB : B < 900000000) (x1 : -2147483648 ≤ x) (x2 : x < 2147483648) : CO (B + 20000) I Y Γ D O M eA "" "" (fX_pass Y Γ (hI x)) (fM_pass M (hI x)) := by
  obtain ⟨Y1, Γ1, M4, r1, r2, r3, r4, r5, r6, r7, r8, ra, rf, -, fin⟩ := t_done hs
  obtain ⟨⟨hr, h, hgo⟩, -, -, hin, -⟩ := hs
  unfold fX_pass fM_pass fM_areHours
  rw [show (1 : Int64) = hL 1 from rfl, show (240 : Int64) = hL 240 from rfl, isIn_e x1 x2 (by omega) (by omega) (by omega) (by omega)]
  by_cases c : 1 ≤ x ∧ x ≤ 240
  · have e0 : fG_passRefusal (hI x) = hI 0 := by
      unfold fG_passRefusal
      rw [show (1 : Int32) = hI 1 from rfl, show (240 : Int32) = hI 240 from rfl, ilt (by omega) (by omega) (by omega) (by omega), if_neg (by omega), ilt (by omega) (by omega) (by omega) (by omega), if_neg (by omega)]; rfl
    have hrr : hR (Γ1 10) (hm M4) := by rw [r3, r4]; exact hr
    have hv4 : hV B (hm M4) := by rw [r4]; exact h
    obtain ⟨t, G2, M6, e1, e2, e3, e4, e5, e6⟩ := t_pass (n := x) hrr hv4 (by omega) (by omega) (by omega)
    obtain ⟨f1, f2, f3⟩ := fr_of e5
    obtain ⟨M9, k1, k2, k3⟩ := fin (B + 20000) G2 I M6 (by omega) ⟨e3, hV_le (by omega) e4, by rw [e6 0 (by omega) (by omega) (by omega) (by omega), r4]; exact hgo⟩ f1 f2 f3 (in_of e5 (hIn_c (I1 := I) r5 r6 r7 r8 hin))
    refine Or.inl ⟨hI t, Y1, gup Γ1 10 G2, M9, ?_, ?_, ?_, k3⟩
    · rw [e0, ref_0, bnx_l, r1, bnd2_s, e1, bnd2_s]
    · rw [decide_eq_true c, goes_t, bnd2_s, if_pos rfl, r2, bnd_s, e2, bnd2_s, kept_e k1, bnd2_s]
    · rw [k2, e5.1 0 (by decide), rf 0, mF_same]
  · have e0 : fG_passRefusal (hI x) = hI 2 := by
      unfold fG_passRefusal
      rw [show (1 : Int32) = hI 1 from rfl, show (240 : Int32) = hI 240 from rfl, ilt (by omega) (by omega) (by omega) (by omega), ilt (by omega) (by omega) (by omega) (by omega)]
      by_cases c1 : x < 1
      · rw [if_pos c1]; rfl
      · rw [if_neg c1, if_pos (by omega)]; rfl
    refine Or.inr (Or.inl ⟨?_, ?_⟩)
    · rw [e0, ref_2, bnx_r]
    · rw [decide_eq_false c, goes_f]; rfl
theorem o_moveHem (hs : hS B I Y Γ D O M) (hB : B < 900000000) (x1 : -2147483648 ≤ x) (x2 : x < 2147483648) (y1 : -2147483648 ≤ y) (y2 : y < 2147483648) : CO (B + 20000) I Y Γ D O M eA eS "" (fX_moveHem Y Γ (hI x) (hI y)) (fM_moveHem M (hI x) (hI y)) := by
  obtain ⟨Y1, Γ1, M4, r1, r2, r3, r4, r5, r6, r7, r8, ra, rf, -, fin⟩ := t_done hs
  obtain ⟨⟨hr, h, hgo⟩, -, -, hin, -⟩ := hs
  unfold fX_moveHem fM_moveHem fG_hemRefusal fM_moveHem_j25
  rw [Xband_d x1 x2, Xmer_d y1 y2, Mat_d x1 x2 y1 y2]
  by_cases c : (0 ≤ x ∧ x < 9) ∧ (0 ≤ y ∧ y < 360)
  · obtain ⟨u, u1, u2, u3, u4, u5⟩ := t_hemWhy (m := y) hr h c.1.1 c.1.2 c.2.1 c.2.2
    rw [decide_eq_true c.1, if_pos rfl, decide_eq_true c.2, if_pos rfl, u3, bnd_s, decide_eq_true c, if_pos rfl, u4, bnd_s, show (0 : Int32) = hI 0 from rfl, ieq (by omega) (by omega) (by omega) (by omega), ieq (by omega) (by omega) (by omega) (by omega)]
    by_cases cu : u = 0
    · obtain ⟨p1, p2⟩ := u5 cu
      have hrr : hR (Γ1 10) (hm M4) := by rw [r3, r4]; exact hr
      have hv4 : hV B (hm M4) := by rw [r4]; exact h
      obtain ⟨t, G2, M6, e1, e2, e3, e4, e5, e6, e7⟩ := t_moveHem (b := x) (m := y) hrr hv4 c.1.1 c.1.2 p1 c.2.2 (by rw [r4]; exact p2)
      obtain ⟨f1, f2, f3⟩ := fr_of e5
      obtain ⟨M9, k1, k2, k3⟩ := fin (B + 20000) G2 I M6 (by omega) ⟨e3, hV_le (by omega) e4, by rw [e6, r4]; exact hgo⟩ f1 f2 f3 (in_of e5 (hIn_c (I1 := I) r5 r6 r7 r8 hin))
      refine Or.inl ⟨hI t, Y1, gup Γ1 10 G2, M9, ?_, ?_, ?_, k3⟩
      · rw [if_pos cu, bnd_s, ref_0, bnx_l, r1, bnd2_s, e1, bnd2_s]
      · rw [if_pos cu]
        unfold fM_moveHem_j26
        rw [both_tt, bnd2_s, if_pos rfl, r2, bnd_s, e2, bnd2_s, kept_e k1, bnd2_s]
      · rw [k2, e5.1 0 (by decide), rf 0, mF_same]
    · refine Or.inr (Or.inr (Or.inl ⟨?_, ?_, by decide⟩))
      · rw [if_neg cu, bnd_s, show (3 : Int32) = hI 3 from rfl, ref_3, bnx_r]
      · rw [if_neg cu]
        unfold fM_moveHem_j26
        rw [both_tf]; rfl
  · refine Or.inr (Or.inl ⟨?_, ?_⟩)
    · have e : (if decide (0 ≤ x ∧ x < 9) = true then if decide (0 ≤ y ∧ y < 360) = true then bnd (fG_hemHindrance (Γ 10) (hI x) (hI y)) fun v1 => if v1 = 0 then some 0 else some 3 else some 2 else some 2) = some (hI 2) := by
        by_cases c1 : 0 ≤ x ∧ x < 9
        · rw [decide_eq_true c1, if_pos rfl, decide_eq_false (fun z => c ⟨c1, z⟩), if_neg (by decide)]; rfl
        · rw [decide_eq_false c1, if_neg (by decide)]; rfl
      rw [e, bnd_s, ref_2, bnx_r]
    · rw [decide_eq_false c, if_neg (by decide)]
      unfold fM_moveHem_j26
      rw [both_f]; rfl
theorem o_sew (hs : hS B I Y Γ D O M) (hB : B < 900000000) (x1 : -2147483648 ≤ x) (x2 : x < 2147483648) (y1 : -2147483648 ≤ y) (y2 : y < 2147483648) : CO (B + 20000) I Y Γ D O M eX eA eS (fX_sew Y Γ (hI x) (hI y)) (fM_sew M (hI x) (hI y)) := by
  obtain ⟨Y1, Γ1, M4, r1, r2, r3, r4, r5, r6, r7, r8, ra, rf, -, fin⟩ := t_done hs
  obtain ⟨⟨hr, h, hgo⟩, -, -, hin, -⟩ := hs
  have h0 := h.1.1
  have hq3 := h.2.2.2.2.2.2 3
  have eS0 : fM_areStitches (hI y) = decide (1 ≤ y ∧ y ≤ 99) := by
    unfold fM_areStitches
    rw [show (1 : Int64) = hL 1 from rfl, show (99 : Int64) = hL 99 from rfl, isIn_e y1 y2 (by omega) (by omega) (by omega) (by omega)]
  unfold fX_sew fM_sew fG_sewRefusal fM_maySew
  rw [hasGore_d hr h x1 x2, Mgore_d h x1 x2, eS0]
  by_cases c : 0 ≤ x ∧ x < hm M 0
  · have hq := h.2.2.1 x c.1 c.2
    have eM : ∃ t : Bool, (bnd (rd 160 (mA M 249) (26 + hI x)) fun v2 => if 99 < v2 + hI y then some false else if mA M 249 3 < hI y then some false else some true) = some t := by
      rw [show (26 : Int32) = hI 26 from rfl, hI_add, mrd (by omega) (by omega), bnd_s]
      split
      · exact ⟨_, rfl⟩
      · split
        · exact ⟨_, rfl⟩
        · exact ⟨_, rfl⟩
    by_cases cy : 1 ≤ y ∧ y ≤ 99
    · have eG : (if hI y < 1 then some 2 else if 99 < hI y then some 2 else bnd (fG_canSew (Γ 10) (hI x) (hI y)) fun v1 => if v1 = true then some 0 else some 3) = some (hI (if 99 < hm M (26 + x) + y ∨ hm M 3 < y then 3 else 0)) := by
        unfold fG_canSew
        by_cases d1 : 99 < hm M (26 + x) + y
        · have n1 : ¬ y < 1 := by omega
          have n2 : ¬ 99 < y := by omega
          rw [if_pos (Or.inl d1)]
          simp (disch := omega) only [↓reduceIte, Int.reduceEq, Int.reduceLT, bnd_s, bnd2_s, bnd3_s, hI_lit, hL_lit, hI_add, hI_sub, hI_mul, hI_neg, hI_lt, hI_eq, if_true, if_false, eq_self_iff_true, true_and, and_true, false_and, and_false, decide_eq_true_eq, not_true, not_false_iff, Bool.false_eq_true, Bool.true_eq_false, n1, n2, r_stitch hr, d1]
        · have n1 : ¬ y < 1 := by omega
          have n2 : ¬ 99 < y := by omega
          by_cases d2 : hm M 3 < y
          · rw [if_pos (Or.inr d2)]
            simp (disch := omega) only [↓reduceIte, Int.reduceEq, Int.reduceLT, bnd_s, bnd2_s, bnd3_s, hI_lit, hL_lit, hI_add, hI_sub, hI_mul, hI_neg, hI_lt, hI_eq, if_true, if_false, eq_self_iff_true, true_and, and_true, false_and, and_false, decide_eq_true_eq, not_true, not_false_iff, Bool.false_eq_true, Bool.true_eq_false, n1, n2, r_stitch hr, d1, r_thread hr, d2]
          · rw [if_neg (show ¬ (99 < hm M (26 + x) + y ∨ hm M 3 < y) by omega)]
            simp (disch := omega) only [↓reduceIte, Int.reduceEq, Int.reduceLT, bnd_s, bnd2_s, bnd3_s, hI_lit, hL_lit, hI_add, hI_sub, hI_mul, hI_neg, hI_lt, hI_eq, if_true, if_false, eq_self_iff_true, true_and, and_true, false_and, and_false, decide_eq_true_eq, not_true, not_false_iff, Bool.false_eq_true, Bool.true_eq_false, n1, n2, r_stitch hr, d1, r_thread hr, d2]
      have eM2 : (bnd (rd 160 (mA M 249) (26 + hI x)) fun v2 => if 99 < v2 + hI y then some false else if mA M 249 3 < hI y then some false else some true) = some (decide (¬ (99 < hm M (26 + x) + y ∨ hm M 3 < y))) := by
        by_cases d1 : 99 < hm M (26 + x) + y
        · rw [decide_eq_false (fun z => z (Or.inl d1))]
          simp (disch := omega) only [↓reduceIte, Int.reduceEq, Int.reduceLT, bnd_s, bnd2_s, bnd3_s, hI_lit, hL_lit, hI_add, hI_sub, hI_mul, hI_neg, hI_lt, hI_eq, if_true, if_false, eq_self_iff_true, true_and, and_true, false_and, and_false, decide_eq_true_eq, not_true, not_false_iff, Bool.false_eq_true, Bool.true_eq_false, mrd, d1]
        · by_cases d2 : hm M 3 < y
          · rw [decide_eq_false (fun z => z (Or.inr d2))]
            simp (disch := omega) only [↓reduceIte, Int.reduceEq, Int.reduceLT, bnd_s, bnd2_s, bnd3_s, hI_lit, hL_lit, hI_add, hI_sub, hI_mul, hI_neg, hI_lt, hI_eq, if_true, if_false, eq_self_iff_true, true_and, and_true, false_and, and_false, decide_eq_true_eq, not_true, not_false_iff, Bool.false_eq_true, Bool.true_eq_false, mrd, d1, m_3, d2]
          · rw [decide_eq_true (by omega)]
            simp (disch := omega) only [↓reduceIte, Int.reduceEq, Int.reduceLT, bnd_s, bnd2_s, bnd3_s, hI_lit, hL_lit, hI_add, hI_sub, hI_mul, hI_neg, hI_lt, hI_eq, if_true, if_false, eq_self_iff_true, true_and, and_true, false_and, and_false, decide_eq_true_eq, not_true, not_false_iff, Bool.false_eq_true, Bool.true_eq_false, mrd, d1, m_3, d2]
      rw [decide_eq_true c, if_pos rfl, eG, bnd_s, if_pos rfl, eM2, bnd_s, decide_eq_true cy]
      by_cases d : 99 < hm M (26 + x) + y ∨ hm M 3 < y
      · refine Or.inr (Or.inr (Or.inr ⟨?_, ?_, by decide⟩))
        · rw [if_pos d, ref_3, bnx_r]
        · rw [decide_eq_false (fun z => z d), three_ttf]; rfl
      · have hrr : hR (Γ1 10) (hm M4) := by rw [r3, r4]; exact hr
        have hv4 : hV B (hm M4) := by rw [r4]; exact h
        obtain ⟨t, G2, M6, e1, e2, e3, e4, e5, e6, e7⟩ := t_sew (k := x) (v := y) hrr hv4 c.1 (by rw [r4]; exact c.2) cy.1 (by rw [r4]; omega)
        obtain ⟨f1, f2, f3⟩ := fr_of e5
        obtain ⟨M9, k1, k2, k3⟩ := fin (B + 20000) G2 I M6 (by omega) ⟨e3, hV_le (by omega) e4, by rw [e6, r4]; exact hgo⟩ f1 f2 f3 (in_of e5 (hIn_c (I1 := I) r5 r6 r7 r8 hin))
        refine Or.inl ⟨hI t, Y1, gup Γ1 10 G2, M9, ?_, ?_, ?_, k3⟩
        · rw [if_neg d, ref_0, bnx_l, r1, bnd2_s, e1, bnd2_s]
        · rw [decide_eq_true d, three_ttt, bnd2_s, if_pos rfl, r2, bnd_s, e2, bnd2_s, kept_e k1, bnd2_s]
        · rw [k2, e5.1 0 (by decide), rf 0, mF_same]
    · obtain ⟨t, et⟩ := eM
      refine Or.inr (Or.inr (Or.inl ⟨?_, ?_, by decide⟩))
      · have e : (if hI y < 1 then some 2 else if 99 < hI y then some 2 else bnd (fG_canSew (Γ 10) (hI x) (hI y)) fun v1 => if v1 = true then some 0 else some 3) = some (hI 2) := by
          rw [show (1 : Int32) = hI 1 from rfl, show (99 : Int32) = hI 99 from rfl, ilt (by omega) (by omega) (by omega) (by omega), ilt (by omega) (by omega) (by omega) (by omega)]
          by_cases c1 : y < 1
          · rw [if_pos c1]; rfl
          · rw [if_neg c1, if_pos (by omega)]; rfl
        rw [decide_eq_true c, if_pos rfl, e, bnd_s, ref_2, bnx_r]
      · rw [decide_eq_true c, if_pos rfl, et, bnd_s, decide_eq_false cy, three_tf]; rfl
  · refine Or.inr (Or.inl ⟨?_, ?_⟩)
    · rw [decide_eq_false c, if_neg (by decide), bnd_s, show (1 : Int32) = hI 1 from rfl, ref_1, bnx_r]
    · rw [decide_eq_false c, if_neg (by decide), bnd_s, three_f]; rfl
theorem o_rip (hs : hS B I Y Γ D O M) (hB : B < 900000000) (x1 : -2147483648 ≤ x) (x2 : x < 2147483648) : CO (B + 20000) I Y Γ D O M eX eS "" (fX_rip Y Γ (hI x)) (fM_rip M (hI x)) := by
  obtain ⟨Y1, Γ1, M4, r1, r2, r3, r4, r5, r6, r7, r8, ra, rf, -, fin⟩ := t_done hs
  obtain ⟨⟨hr, h, hgo⟩, -, -, hin, -⟩ := hs
  have h0 := h.1.1
  unfold fX_rip fM_rip fG_ripRefusal fM_mayRip
  rw [hasGore_d hr h x1 x2, Mgore_d h x1 x2]
  by_cases c : 0 ≤ x ∧ x < hm M 0
  · rw [decide_eq_true c, if_pos rfl, if_pos rfl, g_torn hr c.1 c.2 (by omega) h, m_torn c.1 (by omega), bnd_s, bnd_s]
    by_cases d : hm M (26 + x) = 0
    · refine Or.inr (Or.inr (Or.inl ⟨?_, ?_, by decide⟩))
      · rw [decide_eq_true d, if_pos rfl, bnd_s, show (3 : Int32) = hI 3 from rfl, ref_3, bnx_r]
      · rw [decide_eq_true d, if_pos rfl, bnd_s, both_tf]; rfl
    · have hrr : hR (Γ1 10) (hm M4) := by rw [r3, r4]; exact hr
      have hv4 : hV B (hm M4) := by rw [r4]; exact h
      obtain ⟨t, G2, M6, e1, e2, e3, e4, e5, e6, e7⟩ := t_rip (k := x) hrr hv4 c.1 (by rw [r4]; exact c.2)
      obtain ⟨f1, f2, f3⟩ := fr_of e5
      obtain ⟨M9, k1, k2, k3⟩ := fin (B + 20000) G2 I M6 (by omega) ⟨e3, hV_le (by omega) e4, by rw [e6, r4]; exact hgo⟩ f1 f2 f3 (in_of e5 (hIn_c (I1 := I) r5 r6 r7 r8 hin))
      refine Or.inl ⟨hI t, Y1, gup Γ1 10 G2, M9, ?_, ?_, ?_, k3⟩
      · rw [decide_eq_false d, if_neg (by decide), bnd_s, show (0 : Int32) = hI 0 from rfl, ref_0, bnx_l, r1, bnd2_s, e1, bnd2_s]
      · rw [decide_eq_false d, if_neg (by decide), bnd_s, both_tt, bnd2_s, if_pos rfl, r2, bnd_s, e2, bnd2_s, kept_e k1, bnd2_s]
      · rw [k2, e5.1 0 (by decide), rf 0, mF_same]
  · refine Or.inr (Or.inl ⟨?_, ?_⟩)
    · rw [decide_eq_false c, if_neg (by decide), bnd_s, show (1 : Int32) = hI 1 from rfl, ref_1, bnx_r]
    · rw [decide_eq_false c, if_neg (by decide), bnd_s, both_f]; rfl
theorem o_step (hs : hS B I Y Γ D O M) (hB : B < 900000000) (x1 : -2147483648 ≤ x) (x2 : x < 2147483648) (y1 : -2147483648 ≤ y) (y2 : y < 2147483648) : CO (B + 20000) I Y Γ D O M eX eA eS (fX_step Y Γ (hI x) (hI y)) (fM_step M (hI x) (hI y)) := by
  obtain ⟨Y1, Γ1, M4, r1, r2, r3, r4, r5, r6, r7, r8, ra, rf, -, fin⟩ := t_done hs
  obtain ⟨⟨hr, h, hgo⟩, -, -, hin, -⟩ := hs
  have h1 := h.1.2.1
  unfold fX_step fM_step fG_stepRefusal fM_step_j22 fM_step_j23 fM_step_j54 fM_step_j55
  rw [hasSpot_d hr h x1 x2, Xdir_d y1 y2, Mspot_d h x1 x2, Mdir_d y1 y2]
  by_cases c : 0 ≤ x ∧ x < hm M 1
  · by_cases cd : y = 0 ∨ y = 1
    · obtain ⟨u, u1, u2, u3, u4, u5⟩ := t_stepWhy hr h c.1 c.2 cd
      have hrr : hR (Γ1 10) (hm M4) := by rw [r3, r4]; exact hr
      have hv4 : hV B (hm M4) := by rw [r4]; exact h
      by_cases cu : u = 0
      · obtain ⟨G2, M6, e1, e2, e3, e4, e5, e6, e7, e8, e9⟩ := t_step (k := x) (d := y) hrr hv4 (by omega) c.1 (by rw [r4]; exact c.2) cd
        have q1 : hm M6 1 = hm M 1 := by rw [e6 1 (by omega) (by omega) (by omega), r4]
        obtain ⟨f1, f2, f3⟩ := fr_of e5
        obtain ⟨M9, k1, k2, k3⟩ := fin (B + 20000) G2 I M6 (by omega) ⟨e3, hV_le (by omega) e4, by rw [e6 0 (by omega) (by omega) (by omega), r4]; exact hgo⟩ f1 f2 f3 (in_of e5 (hIn_c (I1 := I) r5 r6 r7 r8 hin))
        refine Or.inl ⟨hI (sTo (hm M4) x y), Y1, gup Γ1 10 G2, M9, ?_, ?_, ?_, k3⟩
        · simp (disch := omega) only [bnd_s, bnd2_s, bnx_l, ↓reduceIte, decide_true, decide_eq_true c, decide_eq_true cd, rix_hI, u3, cu, show (hI 0 = 0) = True from eq_true rfl, show fX_refuse 0 = some (.inl ()) from ref_0, r1, e1, gup_same]
          rw [r_s3 e3 c.1 (by omega), e7]
        · simp (disch := omega) only [bnd_s, bnd2_s, ↓reduceIte, decide_eq_true c, decide_eq_true cd, u4, cu, show (hI 0 = 0) = True from eq_true rfl, three_ttt, r2, e2, kept_e k1]
        · rw [k2, e5.1 0 (by decide), rf 0, mF_same]
      · have nu : (hI u = 0) = False := eq_false (fun z => by
          have z2 : hI u = hI 0 := z
          rw [hI_eq (by omega) (by omega) (by omega) (by omega)] at z2
          exact cu z2)
        refine Or.inr (Or.inr (Or.inr ⟨?_, ?_, by decide⟩))
        · simp (disch := omega) only [bnd_s, bnd2_s, bnx_r, ↓reduceIte, decide_eq_true c, decide_eq_true cd, rix_hI, u3, nu, show fX_refuse 3 = some (.inr eS) from ref_3]
        · simp (disch := omega) only [bnd_s, bnd2_s, ↓reduceIte, Bool.false_eq_true, decide_eq_true c, decide_eq_true cd, u4, nu, three_ttf]
    · refine Or.inr (Or.inr (Or.inl ⟨?_, ?_, by decide⟩))
      · simp (disch := omega) only [bnd_s, bnx_r, ↓reduceIte, Bool.false_eq_true, decide_eq_true c, decide_eq_false cd, show fX_refuse 2 = some (.inr eA) from ref_2]
      · simp (disch := omega) only [bnd2_s, ↓reduceIte, Bool.false_eq_true, decide_eq_true c, decide_eq_false cd, three_tf]
  · refine Or.inr (Or.inl ⟨?_, ?_⟩)
    · simp (disch := omega) only [bnd_s, bnx_r, ↓reduceIte, Bool.false_eq_true, decide_eq_false c, show fX_refuse 1 = some (.inr eX) from ref_1]
    · simp (disch := omega) only [bnd2_s, ↓reduceIte, Bool.false_eq_true, decide_eq_false c, three_f]
/-- a traveller is told to walk -/
theorem t_tell {y z : Int} (hr : hR G (hm M)) (h : hV B (hm M)) (k1 : 0 ≤ k) (k2 : k < hm M 1) (ht : hm M (38 + 9 * k + 2) = 1) (d1 : y = 0 ∨ y = 1) (z1 : 0 ≤ z) (z2 : z < 360) : hOutC B M (fP_setOut G k.toNat (hI y) (hI z)) (fM_tells M (hI k) (hI y) (hI z)) := by
  have h0 := h.1.1
  have h1 := h.1.2.1
  have h2 := h.1.2.2.1
  have eM : hm (mW (mW M (38 + 9 * k + 6) y) (38 + 9 * k + 7) z) = hu (hu (hm M) (38 + 9 * k + 6) y) (38 + 9 * k + 7) z := by rw [hm_mW (by omega) (by omega), hm_mW (by omega) (by omega)]
  refine ⟨hm M (38 + 9 * k + 7), wgF (wgF G (7 + k.toNat) 5 (hI y)) (7 + k.toNat) 6 (hI z), mW (mW M (38 + 9 * k + 6) y) (38 + 9 * k + 7) z, ?_, ?_, ?_, ?_, hfr_W (hfr_W hfr_rf), ?_⟩
  · unfold fP_setOut
    rw [bnd_s, bnd_s, r_s6 hr k1 k2]
  · unfold fM_tells
    simp (disch := omega) only [↓reduceIte, Int.reduceEq, Int.reduceLT, bnd_s, bnd2_s, bnd3_s, hI_lit, hL_lit, hI_add, hI_sub, hI_mul, hI_neg, hI_lt, hI_eq, if_true, if_false, eq_self_iff_true, true_and, and_true, false_and, and_false, decide_eq_true_eq, not_true, not_false_iff, Bool.false_eq_true, Bool.true_eq_false, m_of, fM_spt, mwr, mW_of]
  · rw [eM]
    refine hR_left ?_ ?_ ?_ k1 (by omega) (hR_dir (by omega) (by omega) (by omega) k1 (by omega) hr)
    all_goals
      rw [hu_ne (by omega)]
      omega
  · rw [eM]
    exact hV_left k1 (by omega) z1 z2 (Or.inl (by rw [hu_ne (by omega)]; exact ht)) (hV_dir k1 (by omega) d1 h)
  · rw [eM]
    exact ⟨by rw [hu_ne (by omega), hu_ne (by omega)], by rw [hu_ne (by omega), hu_ne (by omega)]⟩
theorem walk_d {y z : Int} (y1 : -2147483648 ≤ y) (y2 : y < 2147483648) (z1 : -2147483648 ≤ z) (z2 : z < 2147483648) : fM_isWalk (hI y) (hI z) = decide ((y = 0 ∨ y = 1) ∧ (0 ≤ z ∧ z < 360)) := by
  unfold fM_isWalk
  rw [Mdir_d y1 y2, show (0 : Int64) = hL 0 from rfl, show (359 : Int64) = hL 359 from rfl, isIn_e z1 z2 (by omega) (by omega) (by omega) (by omega)]
  by_cases c1 : y = 0 ∨ y = 1
  · rw [decide_eq_true c1, if_pos rfl]
    by_cases c2 : 0 ≤ z ∧ z < 360
    · rw [decide_eq_true (show 0 ≤ z ∧ z ≤ 359 by omega), if_pos rfl, decide_eq_true ⟨c1, c2⟩]
    · rw [decide_eq_false (show ¬ (0 ≤ z ∧ z ≤ 359) by omega), if_neg (by decide), decide_eq_false (fun q => c2 q.2)]
  · rw [decide_eq_false c1, if_neg (by decide), decide_eq_false (fun q => c1 q.1)]
/-- may it walk: the class's refusal and the reference's tests -/
theorem t_mayWalk {y z : Int} (hr : hR G (hm M)) (h : hV B (hm M)) (x1 : -2147483648 ≤ x) (x2 : x < 2147483648) (y1 : -2147483648 ≤ y) (y2 : y < 2147483648) (z1 : -2147483648 ≤ z) (z2 : z < 2147483648) : fG_walkRefusal G (hI x) (hI y) (hI z) = some (hI (if ¬ (0 ≤ x ∧ x < hm M 1) then 1 else if ¬ ((y = 0 ∨ y = 1) ∧ (0 ≤ z ∧ z < 360)) then 2 else if hm M (38 + 9 * x + 2) = 1 then 0 else 3)) ∧ fM_isTravelling M (hI x) = some (decide ((0 ≤ x ∧ x < hm M 1) ∧ hm M (38 + 9 * x + 2) = 1)) := by
  have h1 := h.1.2.1
  constructor
  · unfold fG_walkRefusal
    rw [hasSpot_d hr h x1 x2, Xdir_d y1 y2]
    by_cases c : 0 ≤ x ∧ x < hm M 1
    · rw [decide_eq_true c, if_pos rfl, if_neg (show ¬ ¬ (0 ≤ x ∧ x < hm M 1) from fun q => q c)]
      by_cases c1 : y = 0 ∨ y = 1
      · rw [decide_eq_true c1, if_pos rfl, show (0 : Int32) = hI 0 from rfl, show (359 : Int32) = hI 359 from rfl, ilt (by omega) (by omega) (by omega) (by omega), ilt (by omega) (by omega) (by omega) (by omega)]
        by_cases c2 : 0 ≤ z ∧ z < 360
        · rw [if_neg (by omega), if_neg (by omega), rix_hI c.1 (by omega) (by omega), bnd_s, r_trav hr c.1 c.2, if_neg (show ¬ ¬ ((y = 0 ∨ y = 1) ∧ 0 ≤ z ∧ z < 360) from fun q => q ⟨c1, c2⟩)]
          by_cases c3 : hm M (38 + 9 * x + 2) = 1
          · rw [decide_eq_true c3, if_pos rfl, if_pos c3]
          · rw [decide_eq_false c3, if_neg (by decide), if_neg c3]; rfl
        · rw [if_pos (show ¬ ((y = 0 ∨ y = 1) ∧ 0 ≤ z ∧ z < 360) from fun q => c2 q.2)]
          by_cases c3 : z < 0
          · rw [if_pos c3]; rfl
          · rw [if_neg c3, if_pos (by omega)]; rfl
      · rw [decide_eq_false c1, if_neg (by decide), if_pos (show ¬ ((y = 0 ∨ y = 1) ∧ 0 ≤ z ∧ z < 360) from fun q => c1 q.1)]; rfl
    · rw [decide_eq_false c, if_neg (by decide), if_pos c]; rfl
  · unfold fM_isTravelling
    rw [Mspot_d h x1 x2]
    by_cases c : 0 ≤ x ∧ x < hm M 1
    · rw [decide_eq_true c, if_pos rfl, m_trav c.1 (by omega), bnd_s]
      by_cases c3 : hm M (38 + 9 * x + 2) = 1
      · rw [decide_eq_true c3, if_pos rfl, decide_eq_true ⟨c, c3⟩]
      · rw [decide_eq_false c3, if_neg (by decide), decide_eq_false (fun q => c3 q.2)]
    · rw [decide_eq_false c, if_neg (by decide), decide_eq_false (fun q => c q.1)]
theorem o_walk {z : Int} (hs : hS B I Y Γ D O M) (hB : B < 900000000) (x1 : -2147483648 ≤ x) (x2 : x < 2147483648) (y1 : -2147483648 ≤ y) (y2 : y < 2147483648) (z1 : -2147483648 ≤ z) (z2 : z < 2147483648) : CO (B + 20000) I Y Γ D O M eX eA eS (fX_walk Y Γ (hI x) (hI y) (hI z)) (fM_walk M (hI x) (hI y) (hI z)) := by
  obtain ⟨Y1, Γ1, M4, r1, r2, r3, r4, r5, r6, r7, r8, ra, rf, -, fin⟩ := t_done hs
  obtain ⟨⟨hr, h, hgo⟩, -, -, hin, -⟩ := hs
  have h1 := h.1.2.1
  obtain ⟨w1, w2⟩ := t_mayWalk hr h x1 x2 y1 y2 z1 z2
  unfold fX_walk fM_walk
  rw [w1, w2, bnd_s, bnd_s, Mspot_d h x1 x2, walk_d y1 y2 z1 z2]
  by_cases c : 0 ≤ x ∧ x < hm M 1
  · by_cases cw : (y = 0 ∨ y = 1) ∧ (0 ≤ z ∧ z < 360)
    · by_cases ct : hm M (38 + 9 * x + 2) = 1
      · have hrr : hR (Γ1 10) (hm M4) := by rw [r3, r4]; exact hr
        have hv4 : hV B (hm M4) := by rw [r4]; exact h
        obtain ⟨t, G2, M6, e1, e2, e3, e4, e5, e6, e7⟩ := t_tell (k := x) (y := y) (z := z) hrr hv4 c.1 (by rw [r4]; exact c.2) (by rw [r4]; exact ct) cw.1 cw.2.1 cw.2.2
        obtain ⟨f1, f2, f3⟩ := fr_of e5
        obtain ⟨M9, k1, k2, k3⟩ := fin (B + 20000) G2 I M6 (by omega) ⟨e3, hV_le (by omega) e4, by rw [e6, r4]; exact hgo⟩ f1 f2 f3 (in_of e5 (hIn_c (I1 := I) r5 r6 r7 r8 hin))
        refine Or.inl ⟨hI t, Y1, gup Γ1 10 G2, M9, ?_, ?_, ?_, k3⟩
        · rw [if_neg (show ¬ ¬ (0 ≤ x ∧ x < hm M 1) from fun q => q c), if_neg (show ¬ ¬ ((y = 0 ∨ y = 1) ∧ 0 ≤ z ∧ z < 360) from fun q => q cw), if_pos ct, ref_0, bnx_l, r1, bnd2_s, rix_hI c.1 (by omega) (by omega), bnd_s, e1, bnd2_s]
        · rw [decide_eq_true c, decide_eq_true cw, decide_eq_true ⟨c, ct⟩, three_ttt, bnd2_s, if_pos rfl, r2, bnd_s, e2, bnd2_s, kept_e k1, bnd2_s]
        · rw [k2, e5.1 0 (by decide), rf 0, mF_same]
      · refine Or.inr (Or.inr (Or.inr ⟨?_, ?_, by decide⟩))
        · rw [if_neg (show ¬ ¬ (0 ≤ x ∧ x < hm M 1) from fun q => q c), if_neg (show ¬ ¬ ((y = 0 ∨ y = 1) ∧ 0 ≤ z ∧ z < 360) from fun q => q cw), if_neg ct, ref_3, bnx_r]
        · rw [decide_eq_true c, decide_eq_true cw, decide_eq_false (fun q => ct q.2), three_ttf]; rfl
    · refine Or.inr (Or.inr (Or.inl ⟨?_, ?_, by decide⟩))
      · rw [if_neg (show ¬ ¬ (0 ≤ x ∧ x < hm M 1) from fun q => q c), if_pos cw, ref_2, bnx_r]
      · rw [decide_eq_true c, decide_eq_false cw, three_tf]; rfl
  · refine Or.inr (Or.inl ⟨?_, ?_⟩)
    · rw [if_pos c, ref_1, bnx_r]
    · rw [decide_eq_false c, three_f]; rfl
end HHW

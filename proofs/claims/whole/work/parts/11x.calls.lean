/-! MORE CALLS: adding, undoing, saving, the buffer, predictions -/
section HHX
variable {σ τ : Int → Int} {M M1 M2 : zM} {G Go G1 : zG} {z v w k B B1 b m d f x y : Int} {l : List Int} {I : zI} {Y : Nat → Int32} {Γ : Nat → zG} {D : zD} {O : Nat → Int32}
/-- a change that empties the buffer, done or refused -/
def CI (B1 : Int) (I : zI) (Y : Nat → Int32) (Γ : Nat → zG) (D : zD) (O : Nat → Int32) (M : zM) (E1 E2 : String) (a : Option ((Int32 ⊕ String) × zI × (Nat → Int32) × (Nat → zG))) (b : Option (Int32 × zM)) : Prop :=
  (∃ p I1 Y1 Γ1 M1, a = some (.inl p, I1, Y1, Γ1) ∧ b = some (p, M1) ∧ mF M1 0 = 0 ∧ hS B1 I1 Y1 Γ1 D O M1) ∨ (a = some (.inr E1, I, Y, Γ) ∧ b = some (0, wmF M 0 1)) ∨ (a = some (.inr E2, I, Y, Γ) ∧ b = some (0, wmF M 0 2) ∧ E2 ≠ "")
theorem in_empty {n : Int} (hi : hIn I M) : hIn (wiF I 1 0) (wmF M 2 0) := by
  obtain ⟨-, b6, b7⟩ := hi
  refine ⟨⟨0, by omega, by omega, show z1 I.1 1 0 1 = hI 0 from z1_same, mF_same, fun k k1 k2 => by omega⟩, ?_, ?_⟩
  · rw [mF_ne (by decide)]; exact b6
  · rw [mF_ne (by decide)]; exact b7
theorem o_spot {t : Int} (t1 : t = 0 ∨ t = 1) (hs : hS B I Y Γ D O M) (hB : B < 900000000) (x1 : -2147483648 ≤ x) (x2 : x < 2147483648) (y1 : -2147483648 ≤ y) (y2 : y < 2147483648) : CI (B + 20000) I Y Γ D O M eA eS (fX_nameSpot I Y Γ (hI x) (hI y) (decide (t = 1))) (fM_addsBy M (hI t) (hI x) (hI y)) := by
  obtain ⟨Y1, Γ1, M4, r1, r2, r3, r4, r5, r6, r7, r8, ra, rf, -, fin⟩ := t_done hs
  obtain ⟨⟨hr, h, hgo⟩, -, -, hin, -⟩ := hs
  have h1 := h.1.2.1
  have hin0 := hin
  obtain ⟨⟨n, n1, n2, n3, n4, n5⟩, n6, n7⟩ := hin
  have hM : ∀ q, fM_mayAdd M q = some (if q = 0 then false else true) ∨ True := fun _ => Or.inr trivial
  unfold fX_nameSpot fM_addsBy
  rw [Mat_d x1 x2 y1 y2]
  have ew := t_word n5 n3 n4 n1 n2
  have em : ∃ q u, fM_bufferName M = some q ∧ fM_mayAdd M q = some u := by
    rcases ew with ⟨l, l1, l2, l3⟩ | ⟨l2, l3⟩
    · obtain ⟨p, p1, p2, p3, p4⟩ := t_named l1 hr h
      have hp := p5_pos l1
      have hp2 := p5_b l1
      refine ⟨_, decide (p = -1 ∧ hm M 1 < 10), l3, ?_⟩
      unfold fM_mayAdd
      rw [show (0 : Int64) = hL 0 from rfl, iLeq (by omega) (by omega) (by omega) (by omega), if_neg (by omega), p2, bnd_s, show (1 : Int32) = hI 1 from rfl, hI_neg, ieq (by omega) (by omega) (by omega) (by omega), m_1, show (10 : Int32) = hI 10 from rfl, ilt (by omega) (by omega) (by omega) (by omega)]
      by_cases c1 : p = -1
      · rw [if_pos c1]
        by_cases c2 : hm M 1 < 10
        · rw [if_pos c2, decide_eq_true ⟨c1, c2⟩]
        · rw [if_neg c2, decide_eq_false (fun q => c2 q.2)]
      · rw [if_neg c1, decide_eq_false (fun q => c1 q.1)]
    · refine ⟨_, false, l3, ?_⟩
      unfold fM_mayAdd
      rw [show (0 : Int64) = hL 0 from rfl, if_pos rfl]
  by_cases c : (0 ≤ x ∧ x < 9) ∧ (0 ≤ y ∧ y < 360)
  · rw [need_place_t c, bnx_l, decide_eq_true c]
    rcases ew with ⟨l, l1, l2, l3⟩ | ⟨l2, l3⟩
    · obtain ⟨p, p1, p2, p3, p4⟩ := t_named l1 hr h
      have hp := p5_pos l1
      have hp2 := p5_b l1
      have hp8 := p8_pos l1
      have hp82 := p8_b l1
      have eMA : fM_mayAdd M (hL (p5 l)) = some (decide (p = -1 ∧ hm M 1 < 10)) := by
        unfold fM_mayAdd
        rw [show (0 : Int64) = hL 0 from rfl, iLeq (by omega) (by omega) (by omega) (by omega), if_neg (by omega), p2, bnd_s, show (1 : Int32) = hI 1 from rfl, hI_neg, ieq (by omega) (by omega) (by omega) (by omega), m_1, show (10 : Int32) = hI 10 from rfl, ilt (by omega) (by omega) (by omega) (by omega)]
        by_cases c1 : p = -1
        · rw [if_pos c1]
          by_cases c2 : hm M 1 < 10
          · rw [if_pos c2, decide_eq_true ⟨c1, c2⟩]
          · rw [if_neg c2, decide_eq_false (fun q => c2 q.2)]
        · rw [if_neg c1, decide_eq_false (fun q => c1 q.1)]
      have eRoom : fG_hasRoomForSpot (Γ 10) = decide (hm M 1 < 10) := by
        unfold fG_hasRoomForSpot
        rw [r_spots hr, show (10 : Int32) = hI 10 from rfl, ilt (by omega) (by omega) (by omega) (by omega)]
        by_cases c2 : hm M 1 < 10
        · rw [if_pos c2, decide_eq_true c2]
        · rw [if_neg c2, decide_eq_false c2]
      rw [l2, bnd_s, show (0 : Int64) = hL 0 from rfl, iLeq (by omega) (by omega) (by omega) (by omega), if_neg (by omega), p1, bnd_s, show (1 : Int32) = hI 1 from rfl, hI_neg, ieq (by omega) (by omega) (by omega) (by omega), eRoom, l3, bnd_s, eMA, bnd_s]
      by_cases cp : p = -1 ∧ hm M 1 < 10
      · have hrr : hR (Γ1 10) (hm (wmF M4 2 0)) := by rw [r3, hm_L, r4]; exact hr
        have hv4 : hV B (hm (wmF M4 2 0)) := by rw [hm_L, r4]; exact h
        obtain ⟨u, G2, M6, e1, e2, e3, e4, e5, e6⟩ := t_addSpot (t := t) l1 hrr hv4 (by omega) (by rw [hm_L, r4]; exact cp.2) t1 c.1.1 c.1.2 c.2.1 c.2.2
        have f1 : ∀ k, k ≠ 29 → k ≠ 2 → k < 20 ∨ k = 31 → (k < 3 ∨ 9 < k) → mF M6 k = mF M4 k := fun k a b _ _ => by rw [e5.1 k a, mF_ne b]
        obtain ⟨M9, k1, k2, k3⟩ := fin (B + 20000) G2 (wiF I 1 0) M6 (by omega) ⟨e3, hV_le (by omega) e4, by rw [e6, hm_L, r4]; exact hgo⟩ f1 (by rw [e5.2.2.1]; rfl) (fun a b _ => by rw [e5.2.2.2 a b, mA_wF]) (in_of e5 (in_empty (n := 0) (hIn_c (I1 := I) r5 r6 r7 r8 hin0)))
        refine Or.inl ⟨hI u, wiF I 1 0, Y1, gup Γ1 10 G2, M9, ?_, ?_, ?_, k3⟩
        · rw [if_pos cp.1, decide_eq_true cp.2, if_pos rfl, r1, bnd2_s, bnd_s, e1, bnd2_s]
        · rw [decide_eq_true cp, both_tt, bnd2_s, if_pos rfl, r2, bnd_s, bnd_s, e2, bnd2_s, kept_e k1, bnd2_s]
        · rw [k2, e5.1 0 (by decide), mF_ne (by decide), rf 0, mF_same]
      · refine Or.inr (Or.inr ⟨?_, ?_, by decide⟩)
        · by_cases c1 : p = -1
          · rw [if_pos c1, decide_eq_false (fun q => cp ⟨c1, q⟩), if_neg (by decide)]; rfl
          · rw [if_neg c1]; rfl
        · rw [decide_eq_false cp, both_tf]; rfl
    · refine Or.inr (Or.inr ⟨?_, ?_, by decide⟩)
      · rw [l2, bnd_s, show (0 : Int64) = hL 0 from rfl, if_pos rfl]; rfl
      · have eMA : fM_mayAdd M (hL 0) = some false := by
          unfold fM_mayAdd
          rw [show (0 : Int64) = hL 0 from rfl, if_pos rfl]
        rw [l3, bnd_s, eMA, bnd_s, both_tf]; rfl
  · obtain ⟨q, u, q1, q2⟩ := em
    refine Or.inr (Or.inl ⟨?_, ?_⟩)
    · rw [need_place_f x1 x2 y1 y2 c, bnx_r]
    · rw [q1, bnd_s, q2, bnd_s, decide_eq_false c, both_f]; rfl
theorem o_label (hs : hS B I Y Γ D O M) (hB : B < 900000000) (x1 : -2147483648 ≤ x) (x2 : x < 2147483648) (y1 : -2147483648 ≤ y) (y2 : y < 2147483648) : CI (B + 20000) I Y Γ D O M eA eS (fX_addLabel I Y Γ (hI x) (hI y)) (fM_addLabel M (hI x) (hI y)) := by
  obtain ⟨Y1, Γ1, M4, r1, r2, r3, r4, r5, r6, r7, r8, ra, rf, -, fin⟩ := t_done hs
  obtain ⟨⟨hr, h, hgo⟩, -, -, hin, -⟩ := hs
  have h2 := h.1.2.2.1
  have hin0 := hin
  obtain ⟨⟨n, n1, n2, n3, n4, n5⟩, n6, n7⟩ := hin
  unfold fX_addLabel fM_addLabel fM_addLabel_j45 fM_addLabel_j46
  rw [Mat_d x1 x2 y1 y2]
  have eRoom : fG_hasRoomForLabel (Γ 10) = decide (hm M 2 < 8) := by
    unfold fG_hasRoomForLabel
    rw [r_labels hr, show (8 : Int32) = hI 8 from rfl, ilt (by omega) (by omega) (by omega) (by omega)]
    by_cases c2 : hm M 2 < 8
    · rw [if_pos c2, decide_eq_true c2]
    · rw [if_neg c2, decide_eq_false c2]
  by_cases c : (0 ≤ x ∧ x < 9) ∧ (0 ≤ y ∧ y < 360)
  · rw [need_place_t c, bnx_l, decide_eq_true c, eRoom]
    rcases t_word n5 n3 n4 n1 n2 with ⟨l, l1, l2, l3⟩ | ⟨l2, l3⟩
    · obtain ⟨u, u1, u2, u3, u4, u5⟩ := t_labelWhy (b := x) (f := y) l1 hr h c.1.1 c.1.2 c.2.1 c.2.2
      rw [l2, bnd_s, w_count l1, bnd_s, u3, bnd_s, l3, bnd_s, if_pos rfl, u4, bnd_s, show (0 : Int32) = hI 0 from rfl, ieq (by omega) (by omega) (by omega) (by omega), ieq (by omega) (by omega) (by omega) (by omega), m_2, show (8 : Int32) = hI 8 from rfl, ilt (by omega) (by omega) (by omega) (by omega)]
      by_cases cu : u = 0 ∧ hm M 2 < 8
      · obtain ⟨q1, q2⟩ := u5 cu.1
        have hrr : hR (Γ1 10) (hm (wmF M4 2 0)) := by rw [r3, hm_L, r4]; exact hr
        have hv4 : hV B (hm (wmF M4 2 0)) := by rw [hm_L, r4]; exact h
        obtain ⟨w, G2, M6, e1, e2, e3, e4, e5, e6, e7⟩ := t_addLabel (b := x) (f := y) l1 hrr hv4 (by rw [hm_L, r4]; exact cu.2) c.1.1 c.1.2 c.2.1 q1 (by rw [hm_L, r4]; exact q2)
        have f1 : ∀ k, k ≠ 29 → k ≠ 2 → k < 20 ∨ k = 31 → (k < 3 ∨ 9 < k) → mF M6 k = mF M4 k := fun k a b _ _ => by rw [e5.1 k a, mF_ne b]
        obtain ⟨M9, k1, k2, k3⟩ := fin (B + 20000) G2 (wiF I 1 0) M6 (by omega) ⟨e3, hV_le (by omega) e4, by rw [e6, hm_L, r4]; exact hgo⟩ f1 (by rw [e5.2.2.1]; rfl) (fun a b _ => by rw [e5.2.2.2 a b, mA_wF]) (in_of e5 (in_empty (n := 0) (hIn_c (I1 := I) r5 r6 r7 r8 hin0)))
        refine Or.inl ⟨hI w, wiF I 1 0, Y1, gup Γ1 10 G2, M9, ?_, ?_, ?_, k3⟩
        · rw [decide_eq_true cu.2, if_pos rfl, if_pos cu.1, r1, bnd2_s, bnd_s, e1, bnd2_s]; rfl
        · rw [if_pos cu.1, if_pos cu.2, both_tt, bnd2_s, if_pos rfl, r2, bnd_s, bnd_s]
          have e2' : fM_addsLabel (wmF M4 2 (hI 0)) (hL (p5 l)) (hI x) (hI y) = some (hI w, M6) := e2
          rw [e2', bnd2_s, kept_e k1, bnd2_s]
        · rw [k2, e5.1 0 (by decide), mF_ne (by decide), rf 0, mF_same]
      · refine Or.inr (Or.inr ⟨?_, ?_, by decide⟩)
        · by_cases c1 : hm M 2 < 8
          · rw [decide_eq_true c1, if_pos rfl, if_neg (fun q => cu ⟨q, c1⟩)]; rfl
          · rw [decide_eq_false c1, if_neg (by decide)]; rfl
        · by_cases c1 : u = 0
          · rw [if_pos c1, if_neg (fun q => cu ⟨c1, q⟩), both_tf]; rfl
          · rw [if_neg c1, both_tf]; rfl
    · obtain ⟨u1, u2⟩ := t_labelWhy0 (G := Γ 10) (M := M) (b := x) (f := y) c.1.1 c.1.2
      refine Or.inr (Or.inr ⟨?_, ?_, by decide⟩)
      · rw [l2, bnd_s, w_count0, bnd_s, u1, bnd_s]
        by_cases c1 : hm M 2 < 8
        · rw [decide_eq_true c1, if_pos rfl]; rfl
        · rw [decide_eq_false c1, if_neg (by decide)]; rfl
      · rw [l3, bnd_s, if_pos rfl, u2, bnd_s, show (0 : Int32) = hI 0 from rfl, if_neg (show ¬ hI 1 = hI 0 by decide), both_tf]; rfl
  · refine Or.inr (Or.inl ⟨?_, ?_⟩)
    · rw [need_place_f x1 x2 y1 y2 c, bnx_r]
    · have eb : ∃ q, fM_bufferName M = some q := by
        rcases t_word n5 n3 n4 n1 n2 with ⟨l, l1, l2, l3⟩ | ⟨l2, l3⟩
        · exact ⟨_, l3⟩
        · exact ⟨_, l3⟩
      obtain ⟨q, q1⟩ := eb
      rw [q1, bnd_s, decide_eq_false c, if_neg (by decide), both_f]; rfl
/-- undone -/
theorem o_undo (hs : hS B I Y Γ D O M) : CO B I Y Γ D O M eS "" "" (fX_undo Y Γ) (fM_undo M) := by
  obtain ⟨⟨hr, h, hgo⟩, ⟨u, t, u1, u2, t1, t2, y0, y1, y18, rows⟩, h3, hin, hou⟩ := hs
  unfold fX_undo fM_undo fM_undo_j13
  rw [y0, y18, show (0 : Int32) = hI 0 from rfl, ieq (by omega) (by omega) (by omega) (by omega), ilt (by omega) (by omega) (by omega) (by omega)]
  by_cases c : u = 0
  · rw [if_pos c, if_neg (by omega)]
    exact Or.inr (Or.inl ⟨rfl, rfl⟩)
  · rw [if_neg c, if_pos (by omega)]
    have r0 := rows 0 (by omega) (by omega)
    have e6 : (t + 6 - 0) % 6 = t := by omega
    rw [e6, Int.sub_zero] at r0
    obtain ⟨G5, c1, c2⟩ := t_copy (G := Γ 10) r0.1 r0.2.1.1.1.2 r0.2.1.1.2.1 r0.2.1.1.2.2.1
    obtain ⟨g, k1, k2, k3⟩ := m_copy (M := wmF (wmF M 0 0) 18 (hI (u - 1))) (a := 253) (c := 249) (p := 160 * (u - 1)) (q := 0) (by decide) (by omega) (by show 160 * (u - 1) + 160 ≤ 960; omega) (by omega) (by decide) (by omega)
    have k2' : hm (wmA (wmF (wmF M 0 0) 18 (hI (u - 1))) 249 g) = hrow M (u - 1) := by
      unfold hm hrow
      rw [mA_same]; exact k2
    refine Or.inl ⟨hI (u - 1), z1 (z1 Y 1 (hI ((t + 5) % 6))) 0 (hI (u - 1)), gup Γ 10 G5, wmA (wmF (wmF M 0 0) 18 (hI (u - 1))) 249 g, ?_, ?_, ?_, ?_, ?_, ?_, ?_, ?_⟩
    · unfold fY_recall
      have eY : (hI t + 6 - 1 - (hI t + 6 - 1) / 6 * 6) = hI ((t + 5) % 6) := by
        rw [show (6 : Int32) = hI 6 from rfl, show (1 : Int32) = hI 1 from rfl, hI_add, hI_sub, hI_div (by omega) (by omega) (by omega) (by omega), hI_mul, hI_sub]
        exact congrArg hI (by omega)
      rw [y1, rix_hI (by omega) (by omega) (by omega), bnd_s, c1, bnd_s, eY, bnd_s, z1_ne (by decide), y0, show (1 : Int32) = hI 1 from rfl, hI_sub, bnd_s, bnd2_s, z1_same]
    · rw [goes_t, bnd2_s, if_pos rfl, mF_ne (by decide), y18, show (1 : Int32) = hI 1 from rfl, hI_sub, bnd_s, mF_same, show (160 : Int32) = hI 160 from rfl, hI_mul, k1, bnd_s, mF_wA, mF_same]
    · rw [mF_wA, mF_ne (by decide), mF_same]
    · rw [gup_same, k2']; exact ⟨c2, r0.2⟩
    · refine ⟨u - 1, (t + 5) % 6, by omega, by omega, by omega, by omega, z1_same, by rw [z1_ne (by decide), z1_same], by rw [mF_wA, mF_same], fun i i1 i2 => ?_⟩
      have r := rows (i + 1) (by omega) (by omega)
      have e7 : ((t + 5) % 6 + 6 - i) % 6 = (t + 6 - (i + 1)) % 6 := by omega
      rw [gup_ne (by omega), e7, show u - 1 - 1 - i = u - 1 - (i + 1) by omega]
      unfold hrow at r ⊢
      rw [mA_ne (by decide)]; exact r
    · refine ⟨h3.1, fun z => ?_⟩
      rw [gup_ne (by omega), mA_ne (by decide)]
      exact h3.2 z
    · exact hIn_c (I1 := I) (by rw [mF_wA, mF_ne (by decide), mF_ne (by decide)]) (by rw [mF_wA, mF_ne (by decide), mF_ne (by decide)]) (by rw [mF_wA, mF_ne (by decide), mF_ne (by decide)]) (by rw [mA_ne (by decide)]; rfl) hin
    · exact hOu_c (by rw [mF_wA, mF_ne (by decide), mF_ne (by decide)]) (by rw [mA_ne (by decide)]; rfl) hou
/-- saved, and restored -/
theorem o_save (hs : hS B I Y Γ D O M) : ∃ p Γ1 D1 M1, fX_saveState Γ D = some (p, Γ1, D1) ∧ fM_saveState M = some (p, M1) ∧ hS B I Y Γ1 D1 O M1 := by
  obtain ⟨⟨hr, h, hgo⟩, ⟨u, t, u1, u2, t1, t2, y0, y1, y18, rows⟩, h3, hin, hou⟩ := hs
  obtain ⟨G5, c1, c2⟩ := t_copy (G := Γ 62) hr h.1.1.2 h.1.2.1 h.1.2.2.1
  obtain ⟨g, k1, k2, k3⟩ := m_copy (M := wmF M 0 0) (a := 249) (c := 250) (p := 0) (q := 0) (by decide) (by omega) (by decide) (by omega) (by decide) (by omega)
  have ehm : hm (wmB (wmA (wmF M 0 0) 250 g) true) = hm M := by
    unfold hm
    show hrw (mA (wmA (wmF M 0 0) 250 g) 249) 0 = _
    rw [mA_ne (by decide), mA_wF]
  refine ⟨hI (hm M 4), gup Γ 62 G5, (true, D.2), wmB (wmA (wmF M 0 0) 250 g) true, ?_, ?_, ?_, ?_, ?_, ?_, ?_⟩
  · unfold fX_saveState
    rw [c1, bnd_s, bnd_s, gup_ne (by omega), r_clock hr]
  · unfold fM_saveState
    have e4 : mA (wmB (wmA (wmF M 0 0) 250 g) true) 249 4 = hI (hm M 4) := by
      rw [m_4, ehm]
    have k1' : fM_copiesRow (wmF M 0 0) 249 0 250 0 = some (wmA (wmF M 0 0) 250 g) := k1
    rw [bnd_s, k1', bnd_s, bnd_s, e4]
  · rw [gup_ne (by omega), ehm]; exact ⟨hr, h, hgo⟩
  · refine ⟨u, t, u1, u2, t1, t2, y0, y1, ?_, fun i i1 i2 => ?_⟩
    · show mF (wmA (wmF M 0 0) 250 g) 18 = _
      rw [mF_wA, mF_ne (by decide)]; exact y18
    · rw [gup_ne (by omega)]
      have r := rows i i1 i2
      unfold hrow at r ⊢
      show hG B _ (hrw (mA (wmA (wmF M 0 0) 250 g) 253) _)
      rw [mA_ne (by decide), mA_wF]; exact r
  · refine ⟨rfl, fun _ => ?_⟩
    show hG B (gup Γ 62 G5 62) (hrw (mA (wmA (wmF M 0 0) 250 g) 250) 0)
    rw [gup_same, mA_same, k2]
    exact ⟨c2, h, hgo⟩
  · exact hIn_c (I1 := I) (M := M) (by show mF (wmA (wmF M 0 0) 250 g) 2 = _; rw [mF_wA, mF_ne (by decide)]) (by show mF (wmA (wmF M 0 0) 250 g) 10 = _; rw [mF_wA, mF_ne (by decide)]) (by show mF (wmA (wmF M 0 0) 250 g) 11 = _; rw [mF_wA, mF_ne (by decide)]) (by show mA (wmA (wmF M 0 0) 250 g) 248 = _; rw [mA_ne (by decide), mA_wF]) hin
  · exact hOu_c (M := M) (by show mF (wmA (wmF M 0 0) 250 g) 31 = _; rw [mF_wA, mF_ne (by decide)]) (by show mA (wmA (wmF M 0 0) 250 g) 260 = _; rw [mA_ne (by decide), mA_wF]) (by obtain ⟨p, q⟩ := hou; exact ⟨p, q⟩)
theorem o_restore (hs : hS B I Y Γ D O M) : CO B I Y Γ D O M eS "" "" (fX_restoreState Y Γ D) (fM_restoreState M) := by
  obtain ⟨⟨hr, h, hgo⟩, ⟨u, t, u1, u2, t1, t2, y0, y1, y18, rows⟩, ⟨h3, h4⟩, hin, hou⟩ := hs
  unfold fX_restoreState fM_restoreState
  rw [h3]
  cases hb : mB M with
  | false =>
    refine Or.inr (Or.inl ⟨?_, ?_⟩)
    · rw [if_neg (by decide)]; rfl
    · rw [goes_f]; rfl
  | true =>
    obtain ⟨s1, s2, s3⟩ := h4 hb
    obtain ⟨G5, c1, c2⟩ := t_copy (G := Γ 10) s1 s2.1.1.2 s2.1.2.1 s2.1.2.2.1
    obtain ⟨g, k1, k2, k3⟩ := m_copy (M := wmF M 0 0) (a := 250) (c := 249) (p := 0) (q := 0) (by decide) (by omega) (by decide) (by omega) (by decide) (by omega)
    have ehm : hm (wmF (wmA (wmF M 0 0) 249 g) 18 0) = hrw (mA M 250) 0 := by
      rw [hm_L]
      unfold hm
      rw [mA_same, k2, mA_wF]
    refine Or.inl ⟨hI (hrw (mA M 250) 0 4), z1 Y 0 0, gup Γ 10 G5, wmF (wmA (wmF M 0 0) 249 g) 18 0, ?_, ?_, ?_, ?_, ?_, ?_, ?_, ?_⟩
    · unfold fY_forget
      rw [if_pos rfl, c1, bnd_s, bnd_s, bnd_s, gup_same, r_clock c2]
    · have e4 : mA (wmF (wmA (wmF M 0 0) 249 g) 18 0) 249 4 = hI (hrw (mA M 250) 0 4) := by
        rw [m_4, ehm]
      have k1' : fM_copiesRow (wmF M 0 0) 250 0 249 0 = some (wmA (wmF M 0 0) 249 g) := k1
      rw [goes_t, bnd2_s, if_pos rfl, k1', bnd_s, bnd_s, e4]
    · rw [mF_ne (by decide), mF_wA, mF_same]
    · rw [gup_same, ehm]; exact ⟨c2, s2, s3⟩
    · refine ⟨0, t, by omega, by omega, t1, t2, z1_same, by rw [z1_ne (by decide)]; exact y1, mF_same, fun i i1 i2 => by omega⟩
    · refine ⟨?_, fun _ => ?_⟩
      · rw [h3]; rfl
      · rw [gup_ne (by omega), mA_wF, mA_ne (by decide), mA_wF]
        exact ⟨s1, s2, s3⟩
    · exact hIn_c (I1 := I) (M := M) (by rw [mF_ne (by decide), mF_wA, mF_ne (by decide)]) (by rw [mF_ne (by decide), mF_wA, mF_ne (by decide)]) (by rw [mF_ne (by decide), mF_wA, mF_ne (by decide)]) (by rw [mA_wF, mA_ne (by decide), mA_wF]) hin
    · exact hOu_c (M := M) (by rw [mF_ne (by decide), mF_wA, mF_ne (by decide)]) (by rw [mA_wF, mA_ne (by decide), mA_wF]) hou
end HHX

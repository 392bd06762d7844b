/-! ONE MORE SPOT -/
section HHN
variable {σ τ : Int → Int} {M M1 M2 : zM} {G Go : zG} {z v w k B b m d f : Int} {l : List Int} {I : zI}
theorem hV_spot {t : Int} (h : hV B σ) (q8 : σ 1 < 10) (e_lo : ∀ w, w < 38 → w ≠ 1 → τ w = σ w) (e1 : τ 1 = σ 1 + 1) (e_old : ∀ w, 38 ≤ w → w < 38 + 9 * σ 1 → τ w = σ w) (e_hi : ∀ w, 128 ≤ w → τ w = σ w)
    (v2 : τ (38 + 9 * σ 1 + 2) = t) (v3 : τ (38 + 9 * σ 1 + 3) = b) (v4 : τ (38 + 9 * σ 1 + 4) = m) (v6 : τ (38 + 9 * σ 1 + 6) = 0) (v7 : τ (38 + 9 * σ 1 + 7) = 0)
    (t1 : t = 0 ∨ t = 1) (b1 : 0 ≤ b) (b2 : b < 9) (m1 : 0 ≤ m) (m2 : m < 360) (hrr : ∀ w, -2147483648 ≤ τ w ∧ τ w < 2147483648) : hV B τ := by
  obtain ⟨⟨a0, a1, a2, a4⟩, ah, aw, as_, al, ad, ar⟩ := h
  refine ⟨⟨by rw [e_lo 0 (by omega) (by omega)]; exact a0, by omega, by rw [e_lo 2 (by omega) (by omega)]; exact a2, by rw [e_lo 4 (by omega) (by omega)]; exact a4⟩, ?_, ?_, ?_, ?_, ?_, hrr⟩
  · intro b h1 h2
    rw [e_lo _ (by omega) (by omega)]; exact ah b h1 h2
  · intro j h1 h2
    rw [e_lo 0 (by omega) (by omega)] at h2
    rw [e_lo (14 + j) (by omega) (by omega), e_lo (26 + j) (by omega) (by omega), bg_c (σ := τ) (τ := σ) (fun w h1 h2 => e_lo w (by omega) (by omega))]
    exact aw j h1 h2
  · intro j h1 h2
    rw [e1] at h2
    unfold hVs
    by_cases c : j = σ 1
    · subst c
      rw [v2, v3, v4, v6, v7]
      omega
    · have h3 := as_ j h1 (by omega)
      unfold hVs at h3
      rw [e_old (38 + 9 * j + 2) (by omega) (by omega), e_old (38 + 9 * j + 3) (by omega) (by omega), e_old (38 + 9 * j + 4) (by omega) (by omega), e_old (38 + 9 * j + 6) (by omega) (by omega), e_old (38 + 9 * j + 7) (by omega) (by omega)]
      exact h3
  · intro j h1 h2
    rw [e_lo 2 (by omega) (by omega)] at h2
    unfold hVl
    rw [e_hi (128 + 4 * j + 0) (by omega), e_hi (128 + 4 * j + 1) (by omega), e_hi (128 + 4 * j + 2) (by omega), e_hi (128 + 4 * j + 3) (by omega)]
    exact al j h1 h2
  · intro i j h1 h2 h3
    rw [e_lo 2 (by omega) (by omega)] at h3
    rw [e_hi (128 + 4 * i + 0) (by omega), e_hi (128 + 4 * i + 1) (by omega), e_hi (128 + 4 * i + 2) (by omega), e_hi (128 + 4 * i + 3) (by omega), e_hi (128 + 4 * j + 0) (by omega), e_hi (128 + 4 * j + 1) (by omega), e_hi (128 + 4 * j + 2) (by omega), e_hi (128 + 4 * j + 3) (by omega)]
    exact ad i j h1 h2 h3
theorem gF_n {r c r' : Nat} {x : Int32} (h : r' ≠ r) : gF (wgF G r c x) r' = gF G r' := z2_ne h
theorem gB_n {r r' : Nat} {b : Bool} (h : r' ≠ r) : gB (wgB G r b) r' = gB G r' := if_neg h
theorem gN_n {r r' : Nat} {x : Int64} (h : r' ≠ r) : gN (wgN G r x) r' = gN G r' := if_neg h
/-- a new spot in the class's Globe -/
def nSp (G : zG) (p : Nat) (nm : Int64) (t : Bool) (b m y n1 : Int) : zG := wgF (wgF (wgF (wgF (wgF (wgF (wgF (wgB (wgN G (7 + p) nm) (7 + p) t) (7 + p) 2 (hI b)) (7 + p) 3 (hI m)) (7 + p) 4 (hI y)) (7 + p) 5 (hI 0)) (7 + p) 6 (hI 0)) (7 + p) 7 (hI 0)) 0 4 (hI n1)
theorem nSp_F {p : Nat} {nm : Int64} {t : Bool} {y n1 : Int} {r c : Nat} (h : r ≠ 7 + p) (h2 : ¬ (r = 0 ∧ c = 4)) : gF (nSp G p nm t b m y n1) r c = gF G r c := by
  unfold nSp
  rw [gF_w, if_neg h2, gF_n h, gF_n h, gF_n h, gF_n h, gF_n h, gF_n h, gF_wB, gF_wN]
theorem nSp_A {p : Nat} {nm : Int64} {t : Bool} {y n1 : Int} {r : Nat} : gA (nSp G p nm t b m y n1) r = gA G r := rfl
theorem nSp_B {p : Nat} {nm : Int64} {t : Bool} {y n1 : Int} {r : Nat} : gB (nSp G p nm t b m y n1) r = if r = 7 + p then t else gB G r := rfl
theorem nSp_N {p : Nat} {nm : Int64} {t : Bool} {y n1 : Int} {r : Nat} : gN (nSp G p nm t b m y n1) r = if r = 7 + p then nm else gN G r := rfl
theorem hR_spot {t y : Int} (hl : hWd l) (hr : hR G σ) (h : hV B σ) (q8 : σ 1 < 10) (e_lo : ∀ w, w < 38 → w ≠ 1 → τ w = σ w) (e1 : τ 1 = σ 1 + 1) (e_old : ∀ w, 38 ≤ w → w < 38 + 9 * σ 1 → τ w = σ w) (e_hi : ∀ w, 128 ≤ w → τ w = σ w)
    (v0 : τ (38 + 9 * σ 1 + 0) = p5 l / 1048576) (v1 : τ (38 + 9 * σ 1 + 1) = p5 l % 1048576) (v2 : τ (38 + 9 * σ 1 + 2) = t) (v3 : τ (38 + 9 * σ 1 + 3) = b) (v4 : τ (38 + 9 * σ 1 + 4) = m) (v5 : hI (τ (38 + 9 * σ 1 + 5)) = hI y) (v6 : τ (38 + 9 * σ 1 + 6) = 0) (v7 : τ (38 + 9 * σ 1 + 7) = 0) (v8 : τ (38 + 9 * σ 1 + 8) = 0) :
    hR (nSp G (σ 1).toNat (hL (p8 l)) (decide (t = 1)) b m y (σ 1 + 1)) τ := by
  have h0 := h.1.1
  have h1 := h.1.2.1
  have h2 := h.1.2.2.1
  obtain ⟨⟨a1, a2, a3, a4, a5⟩, ah, ac, as_, al⟩ := hr
  refine ⟨⟨?_, ?_, ?_, ?_, ?_⟩, ?_, ?_, ?_, ?_⟩
  · rw [e_lo 0 (by omega) (by omega), nSp_F (by omega) (by omega)]; exact a1
  · rw [e_lo 4 (by omega) (by omega), nSp_F (by omega) (by omega)]; exact a2
  · rw [e_lo 3 (by omega) (by omega), nSp_F (by omega) (by omega)]; exact a3
  · rw [e1]; unfold nSp; rw [gF_w, if_pos ⟨rfl, rfl⟩]
  · rw [e_lo 2 (by omega) (by omega), nSp_F (by omega) (by omega)]; exact a5
  · intro b h1 h2
    rw [e_lo _ (by omega) (by omega)]; exact ah b h1 h2
  · intro j h1 h2
    rw [e_lo 0 (by omega) (by omega)] at h2
    have h3 := ac j h1 h2
    unfold hRc at h3 ⊢
    rw [e_lo (14 + j) (by omega) (by omega), e_lo (26 + j) (by omega) (by omega), bg_c (σ := τ) (τ := σ) (fun w h1 h2 => e_lo w (by omega) (by omega))]
    exact h3
  · intro j h1 h2
    rw [e1] at h2
    unfold hRs
    by_cases c : j = σ 1
    · subst c
      rw [v0, v1, v2, v3, v4, v5, v6, v7, v8]
      refine ⟨⟨l, hl, ?_, rfl, rfl⟩, ?_, ?_, ?_, ?_, ?_, ?_, ?_⟩
      · rw [nSp_N, if_pos rfl]
      · rw [nSp_B, if_pos rfl]
      · unfold nSp; rw [gF_w, if_neg (by omega), gF_w, if_neg (by omega), gF_w, if_neg (by omega), gF_w, if_neg (by omega), gF_w, if_neg (by omega), gF_w, if_neg (by omega), gF_w, if_pos ⟨rfl, rfl⟩]
      · unfold nSp; rw [gF_w, if_neg (by omega), gF_w, if_neg (by omega), gF_w, if_neg (by omega), gF_w, if_neg (by omega), gF_w, if_neg (by omega), gF_w, if_pos ⟨rfl, rfl⟩]
      · unfold nSp; rw [gF_w, if_neg (by omega), gF_w, if_neg (by omega), gF_w, if_neg (by omega), gF_w, if_neg (by omega), gF_w, if_pos ⟨rfl, rfl⟩]
      · unfold nSp; rw [gF_w, if_neg (by omega), gF_w, if_neg (by omega), gF_w, if_neg (by omega), gF_w, if_pos ⟨rfl, rfl⟩]
      · unfold nSp; rw [gF_w, if_neg (by omega), gF_w, if_neg (by omega), gF_w, if_pos ⟨rfl, rfl⟩]
      · unfold nSp; rw [gF_w, if_neg (by omega), gF_w, if_pos ⟨rfl, rfl⟩]
    · have h3 := as_ j h1 (by omega)
      unfold hRs at h3
      rw [e_old (38 + 9 * j + 0) (by omega) (by omega), e_old (38 + 9 * j + 1) (by omega) (by omega), e_old (38 + 9 * j + 2) (by omega) (by omega), e_old (38 + 9 * j + 3) (by omega) (by omega), e_old (38 + 9 * j + 4) (by omega) (by omega), e_old (38 + 9 * j + 5) (by omega) (by omega), e_old (38 + 9 * j + 6) (by omega) (by omega), e_old (38 + 9 * j + 7) (by omega) (by omega), e_old (38 + 9 * j + 8) (by omega) (by omega)]
      rw [nSp_N, if_neg (by omega), nSp_B, if_neg (by omega), nSp_F (by omega) (by omega), nSp_F (by omega) (by omega), nSp_F (by omega) (by omega), nSp_F (by omega) (by omega), nSp_F (by omega) (by omega), nSp_F (by omega) (by omega)]
      exact h3
  · intro j h1 h2
    rw [e_lo 2 (by omega) (by omega)] at h2
    have h3 := al j h1 h2
    unfold hRl at h3 ⊢
    rw [e_hi (128 + 4 * j + 0) (by omega), e_hi (128 + 4 * j + 1) (by omega), e_hi (128 + 4 * j + 2) (by omega), e_hi (128 + 4 * j + 3) (by omega), nSp_B, if_neg (by omega), nSp_F (by omega) (by omega), nSp_F (by omega) (by omega), nSp_F (by omega) (by omega)]
    exact h3
theorem ld_c {G1 : zG} {b m : Int32} (e1 : gA G1 5 = gA G 5) (e2 : gF G1 0 2 = gF G 0 2) : fG_localDay G1 b m = fG_localDay G b m := by
  unfold fG_localDay fG_localHours fG_longitudeIn
  rw [e1, e2]
theorem m_ld2 (c1 : 0 ≤ hm M 4) (c2 : hm M 4 < 1000000000) (b1 : 0 ≤ b) (b2 : b < 9) (m1 : 0 ≤ m) (m2 : m < 360) : fM_localDay M (hI b) (hI m) = some (hI (lh (hm M) b m / 24)) := by
  have hl := lo_r (σ := hm M) (b := b) m1 m2
  have hr := hm_r (M := M) (w := 5 + b)
  have e1 : fM_longitudeOf M (hI b) (hI m) = some (hI (lo (hm M) b m)) := by
    unfold fM_longitudeOf lo
    rw [show (5 : Int32) = hI 5 from rfl, hI_add, mrd (by omega) (by omega), bnd_s, ilt (by omega) (by omega) hr.1 hr.2, show (360 : Int32) = hI 360 from rfl, hI_sub]
    split <;> rfl
  have e2 : fM_localHours M (hI b) (hI m) = some (hI (lh (hm M) b m)) := by
    unfold fM_localHours lh
    rw [e1, bnd_s, show (15 : Int32) = hI 15 from rfl, fM_fl (Or.inl rfl) (by omega) (by omega), bnd_s, m_4, hI_add]
  have hl2 : -24 ≤ lh (hm M) b m ∧ lh (hm M) b m < 1000000024 := by unfold lh; omega
  unfold fM_localDay
  rw [e2, bnd_s, show (24 : Int32) = hI 24 from rfl, fM_fl (Or.inr rfl) (by omega) (by omega), bnd_s]
theorem t_addSpot {t : Int} (hl : hWd l) (hr : hR G (hm M)) (h : hV B (hm M)) (hB : B < 1000000000) (q8 : hm M 1 < 10) (t1 : t = 0 ∨ t = 1) (b1 : 0 ≤ b) (b2 : b < 9) (m1 : 0 ≤ m) (m2 : m < 360) :
    ∃ n G2 M2, fG_settle G (hL (p8 l)) (hI b) (hI m) (decide (t = 1)) = some (hI n, G2) ∧ fM_addsSpot M (hL (p5 l)) (hI t) (hI b) (hI m) = some (hI n, M2) ∧ hR G2 (hm M2) ∧ hV B (hm M2) ∧ hfr M M2 ∧ hm M2 0 = hm M 0 := by
  have h1 := h.1.2.1
  have h4 := h.1.2.2.2
  have hp := p5_b hl
  have eG : fG_settle G (hL (p8 l)) (hI b) (hI m) (decide (t = 1)) = some (hI (hm M 1), nSp G (hm M 1).toNat (hL (p8 l)) (decide (t = 1)) b m (lh (hm M) b m / 24) (hm M 1 + 1)) := by
    unfold fG_settle fG_hasRoomForSpot nSp
    have e0 : fG_localDay (wgF (wgF (wgB (wgN G (7 + (hm M 1).toNat) (hL (p8 l))) (7 + (hm M 1).toNat) (decide (t = 1))) (7 + (hm M 1).toNat) 2 (hI b)) (7 + (hm M 1).toNat) 3 (hI m)) (hI b) (hI m) = some (hI (lh (hm M) b m / 24)) := by
      refine Eq.trans (ld_c (G := G) ?_ ?_) (g_ld hr h hB b1 b2 m1 m2)
      · rfl
      · rw [gF_n (by omega), gF_n (by omega), gF_wB, gF_wN]
    have e4 : gF (wgF (wgF (wgF (wgF (wgF (wgF (wgB (wgN G (7 + (hm M 1).toNat) (hL (p8 l))) (7 + (hm M 1).toNat) (decide (t = 1))) (7 + (hm M 1).toNat) 2 (hI b)) (7 + (hm M 1).toNat) 3 (hI m)) (7 + (hm M 1).toNat) 4 (hI (lh (hm M) b m / 24))) (7 + (hm M 1).toNat) 5 (hI 0)) (7 + (hm M 1).toNat) 6 (hI 0)) (7 + (hm M 1).toNat) 7 (hI 0)) 0 4 = hI (hm M 1) := by
      rw [gF_n (by omega), gF_n (by omega), gF_n (by omega), gF_n (by omega), gF_n (by omega), gF_n (by omega), gF_wB, gF_wN]
      exact r_spots hr
    have g6' : ∀ (G1 : zG) (x : Int32), gF (wgF G1 0 4 x) 0 4 = x := fun G1 x => by rw [gF_w, if_pos ⟨rfl, rfl⟩]
    simp (disch := omega) only [↓reduceIte, Int.reduceEq, Int.reduceLT, bnd_s, bnd2_s, bnd3_s, hI_lit, hL_lit, hI_add, hI_sub, hI_mul, hI_neg, hI_lt, hI_eq, if_true, if_false, eq_self_iff_true, true_and, and_true, false_and, and_false, decide_eq_true_eq, not_true, not_false_iff, Bool.false_eq_true, Bool.true_eq_false, r_spots hr, q8, rix_hI, e0, e4, g6']
    congr 3
    omega
  -- the reference: nine zeros first
  have key : ∃ r, iter (fun s => fM_addsSpot_b18 (hL (p5 l)) (hI t) (hI b) (hI m) (hI (hm M 1)) (hI (38 + 9 * hm M 1)) s.1 s.2) fu (M, hI 0) = some r ∧ ∃ M2, r = (hI (hm M 1), M2) ∧ hfr M M2 ∧ (∀ w, w < 38 → w ≠ 1 → hm M2 w = hm M w) ∧ hm M2 1 = hm M 1 + 1 ∧ (∀ w, 38 ≤ w → w < 38 + 9 * hm M 1 → hm M2 w = hm M w) ∧ (∀ w, 128 ≤ w → hm M2 w = hm M w) ∧
      hm M2 (38 + 9 * hm M 1 + 0) = p5 l / 1048576 ∧ hm M2 (38 + 9 * hm M 1 + 1) = p5 l % 1048576 ∧ hm M2 (38 + 9 * hm M 1 + 2) = t ∧ hm M2 (38 + 9 * hm M 1 + 3) = b ∧ hm M2 (38 + 9 * hm M 1 + 4) = m ∧ hI (hm M2 (38 + 9 * hm M 1 + 5)) = hI (lh (hm M) b m / 24) ∧ hm M2 (38 + 9 * hm M 1 + 6) = 0 ∧ hm M2 (38 + 9 * hm M 1 + 7) = 0 ∧ hm M2 (38 + 9 * hm M 1 + 8) = 0 := by
    refine it_one 9 (fun i s => ∃ M1, s = (M1, hI i) ∧ hfr M M1 ∧ (∀ w, (w < 38 + 9 * hm M 1 ∨ 38 + 9 * hm M 1 + 9 ≤ w) → hm M1 w = hm M w) ∧ (∀ w, 38 + 9 * hm M 1 ≤ w → w < 38 + 9 * hm M 1 + i → hm M1 w = 0)) _ (by omega) ⟨M, rfl, hfr_rf, fun _ _ => rfl, fun w a b => by omega⟩ ?_
    rintro i s hi ⟨M1, rfl, hf1, ho, hz⟩
    unfold fM_addsSpot_b18
    by_cases c : (i : Int) < 9
    · simp (disch := omega) only [↓reduceIte, Int.reduceEq, Int.reduceLT, bnd_s, bnd2_s, bnd3_s, hI_lit, hL_lit, hI_add, hI_sub, hI_mul, hI_neg, hI_lt, hI_eq, if_true, if_false, eq_self_iff_true, true_and, and_true, false_and, and_false, decide_eq_true_eq, not_true, not_false_iff, Bool.false_eq_true, Bool.true_eq_false, c, mwr, mW_of]
      refine Or.inl ⟨by omega, _, rfl, _, rfl, hfr_W hf1, fun w hw => ?_, fun w w1 w2 => ?_⟩
      · rw [hm_mW (by omega) (by omega), hu_ne (by omega)]; exact ho w hw
      · rw [hm_mW (by omega) (by omega)]
        by_cases e : w = 38 + 9 * hm M 1 + i
        · rw [e, hu_same, hw_id (by omega) (by omega)]
        · rw [hu_ne e]; exact hz w w1 (by omega)
    · have i9 : (i : Int) = 9 := by omega
      rw [i9] at hz
      have eD : ∀ M5, (∀ w, w < 38 → hm M5 w = hm M w) → fM_localDay M5 (hI b) (hI m) = some (hI (lh (hm M) b m / 24)) := by
        intro M5 h5
        rw [m_ld2 (by rw [h5 4 (by omega)]; omega) (by rw [h5 4 (by omega)]; omega) b1 b2 m1 m2]
        unfold lh lo
        rw [h5 4 (by omega), h5 (5 + b) (by omega)]
      have eM5 : hm (mW (mW (mW (mW (mW M1 (38 + 9 * hm M 1 + 0) (p5 l / 1048576)) (38 + 9 * hm M 1 + 1) (p5 l % 1048576)) (38 + 9 * hm M 1 + 2) t) (38 + 9 * hm M 1 + 3) b) (38 + 9 * hm M 1 + 4) m) = hu (hu (hu (hu (hu (hm M1) (38 + 9 * hm M 1 + 0) (p5 l / 1048576)) (38 + 9 * hm M 1 + 1) (p5 l % 1048576)) (38 + 9 * hm M 1 + 2) t) (38 + 9 * hm M 1 + 3) b) (38 + 9 * hm M 1 + 4) m := by
        rw [hm_mW (by omega) (by omega), hm_mW (by omega) (by omega), hm_mW (by omega) (by omega), hm_mW (by omega) (by omega), hm_mW (by omega) (by omega)]
      have eM6 : hm (mW (mW (mW (mW (mW (mW M1 (38 + 9 * hm M 1 + 0) (p5 l / 1048576)) (38 + 9 * hm M 1 + 1) (p5 l % 1048576)) (38 + 9 * hm M 1 + 2) t) (38 + 9 * hm M 1 + 3) b) (38 + 9 * hm M 1 + 4) m) (38 + 9 * hm M 1 + 5) (lh (hm M) b m / 24)) = hu (hu (hu (hu (hu (hu (hm M1) (38 + 9 * hm M 1 + 0) (p5 l / 1048576)) (38 + 9 * hm M 1 + 1) (p5 l % 1048576)) (38 + 9 * hm M 1 + 2) t) (38 + 9 * hm M 1 + 3) b) (38 + 9 * hm M 1 + 4) m) (38 + 9 * hm M 1 + 5) (lh (hm M) b m / 24) := by
        rw [hm_mW (by omega) (by omega), eM5]
      have e16 : hm (mW (mW (mW (mW (mW (mW M1 (38 + 9 * hm M 1 + 0) (p5 l / 1048576)) (38 + 9 * hm M 1 + 1) (p5 l % 1048576)) (38 + 9 * hm M 1 + 2) t) (38 + 9 * hm M 1 + 3) b) (38 + 9 * hm M 1 + 4) m) (38 + 9 * hm M 1 + 5) (lh (hm M) b m / 24)) 1 = hm M 1 := by
        rw [eM6, hu_ne (by omega), hu_ne (by omega), hu_ne (by omega), hu_ne (by omega), hu_ne (by omega), hu_ne (by omega)]
        exact ho 1 (by omega)
      have eD5 := eD (mW (mW (mW (mW (mW M1 (38 + 9 * hm M 1 + 0) (p5 l / 1048576)) (38 + 9 * hm M 1 + 1) (p5 l % 1048576)) (38 + 9 * hm M 1 + 2) t) (38 + 9 * hm M 1 + 3) b) (38 + 9 * hm M 1 + 4) m) (fun w hw => by
        rw [eM5, hu_ne (by omega), hu_ne (by omega), hu_ne (by omega), hu_ne (by omega), hu_ne (by omega)]
        exact ho w (by omega))
      have hi20 := w20_hi hp.1 hp.2
      have lo20 := w20_lo hp.1 hp.2
      simp only [hI_lit, hL_lit] at hi20 lo20
      have eM7 : hm (mW (mW (mW (mW (mW (mW (mW M1 (38 + 9 * hm M 1 + 0) (p5 l / 1048576)) (38 + 9 * hm M 1 + 1) (p5 l % 1048576)) (38 + 9 * hm M 1 + 2) t) (38 + 9 * hm M 1 + 3) b) (38 + 9 * hm M 1 + 4) m) (38 + 9 * hm M 1 + 5) (lh (hm M) b m / 24)) 1 (hm M 1 + 1)) = hu (hu (hu (hu (hu (hu (hu (hm M1) (38 + 9 * hm M 1 + 0) (p5 l / 1048576)) (38 + 9 * hm M 1 + 1) (p5 l % 1048576)) (38 + 9 * hm M 1 + 2) t) (38 + 9 * hm M 1 + 3) b) (38 + 9 * hm M 1 + 4) m) (38 + 9 * hm M 1 + 5) (lh (hm M) b m / 24)) 1 (hm M 1 + 1) := by
        rw [hm_mW (by omega) (by omega), eM6]
      simp (disch := omega) only [↓reduceIte, Int.reduceEq, Int.reduceLT, bnd_s, bnd2_s, bnd3_s, hI_lit, hL_lit, hI_add, hI_sub, hI_mul, hI_neg, hI_lt, hI_eq, if_true, if_false, eq_self_iff_true, true_and, and_true, false_and, and_false, decide_eq_true_eq, not_true, not_false_iff, Bool.false_eq_true, Bool.true_eq_false, c, mwr, mW_of, hi20, lo20, eD5, m_1, e16, mW_1]
      refine Or.inr ⟨_, rfl, _, rfl, hfr_W (hfr_W (hfr_W (hfr_W (hfr_W (hfr_W (hfr_W hf1)))))), fun w w1 w2 => ?_, ?_, fun w w1 w2 => ?_, fun w w1 => ?_, ?_, ?_, ?_, ?_, ?_, ?_, ?_, ?_, ?_⟩
      · rw [eM7, hu_ne (by omega), hu_ne (by omega), hu_ne (by omega), hu_ne (by omega), hu_ne (by omega), hu_ne (by omega), hu_ne (by omega)]
        exact ho w (by omega)
      · rw [eM7, hu_same, hw_id (by omega) (by omega)]
      · rw [eM7, hu_ne (by omega), hu_ne (by omega), hu_ne (by omega), hu_ne (by omega), hu_ne (by omega), hu_ne (by omega), hu_ne (by omega)]
        exact ho w (by omega)
      · rw [eM7, hu_ne (by omega), hu_ne (by omega), hu_ne (by omega), hu_ne (by omega), hu_ne (by omega), hu_ne (by omega), hu_ne (by omega)]
        exact ho w (by omega)
      · rw [eM7, hu_ne (by omega), hu_ne (by omega), hu_ne (by omega), hu_ne (by omega), hu_ne (by omega), hu_ne (by omega), hu_same, hw_id (by omega) (by omega)]
      · rw [eM7, hu_ne (by omega), hu_ne (by omega), hu_ne (by omega), hu_ne (by omega), hu_ne (by omega), hu_same, hw_id (by omega) (by omega)]
      · rw [eM7, hu_ne (by omega), hu_ne (by omega), hu_ne (by omega), hu_ne (by omega), hu_same, hw_id (by omega) (by omega)]
      · rw [eM7, hu_ne (by omega), hu_ne (by omega), hu_ne (by omega), hu_same, hw_id (by omega) (by omega)]
      · rw [eM7, hu_ne (by omega), hu_ne (by omega), hu_same, hw_id (by omega) (by omega)]
      · rw [eM7, hu_ne (by omega), hu_same, hI_hw]
      · rw [eM7, hu_ne (by omega), hu_ne (by omega), hu_ne (by omega), hu_ne (by omega), hu_ne (by omega), hu_ne (by omega), hu_ne (by omega)]
        exact hz _ (by omega) (by omega)
      · rw [eM7, hu_ne (by omega), hu_ne (by omega), hu_ne (by omega), hu_ne (by omega), hu_ne (by omega), hu_ne (by omega), hu_ne (by omega)]
        exact hz _ (by omega) (by omega)
      · rw [eM7, hu_ne (by omega), hu_ne (by omega), hu_ne (by omega), hu_ne (by omega), hu_ne (by omega), hu_ne (by omega), hu_ne (by omega)]
        exact hz _ (by omega) (by omega)
  obtain ⟨r, q, M2, z1, hf, e_lo, e1, e_old, e_hi, v0, v1, v2, v3, v4, v5, v6, v7, v8⟩ := key
  subst z1
  refine ⟨hm M 1, _, M2, eG, ?_, hR_spot hl hr h q8 e_lo e1 e_old e_hi v0 v1 v2 v3 v4 v5 v6 v7 v8, hV_spot h q8 e_lo e1 e_old e_hi v2 v3 v4 v6 v7 t1 b1 b2 m1 m2 (fun w => hm_r), hf, e_lo 0 (by omega) (by omega)⟩
  unfold fM_addsSpot fM_spt
  rw [m_1, show (38 : Int32) = hI 38 from rfl, show (9 : Int32) = hI 9 from rfl, hI_mul, hI_add]
  exact q
end HHN

/-! QUESTIONS of the face: both sides answer alike, and nothing but the code changes -/
section HHQ
variable {σ τ : Int → Int} {M M1 M2 : zM} {G Go G1 : zG} {z v w k B b m d f x y : Int} {l : List Int} {I : zI} {Y : Nat → Int32} {Γ : Nat → zG} {D : zD} {O : Nat → Int32}
def eA : String := "java/lang/IllegalArgumentException"
def eX : String := "java/lang/IndexOutOfBoundsException"
def eS : String := "java/lang/IllegalStateException"
/-- answered, or thrown -/
def QR {α β : Type} (M : zM) (E1 E2 : String) (a : Option (α ⊕ String)) (b : Option (β × zM)) (R : α → β → Prop) : Prop := (∃ p q, a = some (.inl p) ∧ b = some (q, wmF M 0 0) ∧ R p q) ∨ (∃ q, a = some (.inr E1) ∧ b = some (q, wmF M 0 1)) ∨ (∃ q, a = some (.inr E2) ∧ b = some (q, wmF M 0 2) ∧ E2 ≠ "")
theorem goes_t : fM_goes M true = some (true, wmF M 0 0) := rfl
theorem goes_f : fM_goes M false = some (false, wmF M 0 1) := rfl
theorem both_tt : fM_goesBoth M true true = some (true, wmF M 0 0) := by
  unfold fM_goesBoth fM_goesBoth_j18
  simp only [↓reduceIte, bnd_s, mF_same]
theorem both_f {t : Bool} : fM_goesBoth M false t = some (false, wmF M 0 1) := by
  unfold fM_goesBoth fM_goesBoth_j18
  simp only [↓reduceIte, bnd_s, mF_same, Bool.false_eq_true, show ((1 : Int32) = 0) = False from eq_false (by decide)]
theorem both_tf : fM_goesBoth M true false = some (false, wmF M 0 2) := by
  unfold fM_goesBoth fM_goesBoth_j18
  simp only [↓reduceIte, bnd_s, mF_same, Bool.false_eq_true, show ((2 : Int32) = 0) = False from eq_false (by decide)]
theorem three_ttt : fM_goesThree M true true true = some (true, wmF M 0 0) := by
  unfold fM_goesThree fM_goesThree_j26
  simp only [↓reduceIte, bnd_s, mF_same]
theorem three_f {t u : Bool} : fM_goesThree M false t u = some (false, wmF M 0 1) := by
  unfold fM_goesThree fM_goesThree_j26
  simp only [↓reduceIte, bnd_s, mF_same, Bool.false_eq_true, show ((1 : Int32) = 0) = False from eq_false (by decide)]
theorem three_tf {u : Bool} : fM_goesThree M true false u = some (false, wmF M 0 2) := by
  unfold fM_goesThree fM_goesThree_j26
  simp only [↓reduceIte, bnd_s, mF_same, Bool.false_eq_true, show ((2 : Int32) = 0) = False from eq_false (by decide)]
theorem three_ttf : fM_goesThree M true true false = some (false, wmF M 0 3) := by
  unfold fM_goesThree fM_goesThree_j26
  simp only [↓reduceIte, bnd_s, mF_same, Bool.false_eq_true, show ((3 : Int32) = 0) = False from eq_false (by decide)]
theorem told_e {a : Int32} : fM_told M a = some (a, wmF M 0 0) := rfl
theorem in_d {lo hi : Int} (x1 : -2147483648 ≤ x) (x2 : x < 2147483648) (l1 : -2147483648 ≤ lo) (l2 : lo < 2147483648) (h1 : -2147483648 ≤ hi) (h2 : hi < 2147483648) : (if hI x < hI lo then false else if hI x < hI hi then true else false) = decide (lo ≤ x ∧ x < hi) := by
  rw [ilt x1 x2 l1 l2, ilt x1 x2 h1 h2]
  by_cases c1 : x < lo
  · rw [if_pos c1, decide_eq_false (by omega)]
  · rw [if_neg c1]
    by_cases c2 : x < hi
    · rw [if_pos c2, decide_eq_true (by omega)]
    · rw [if_neg c2, decide_eq_false (by omega)]
theorem hasGore_d (hr : hR G σ) (h : hV B σ) (x1 : -2147483648 ≤ x) (x2 : x < 2147483648) : fC_hasGore G (hI x) = decide (0 ≤ x ∧ x < σ 0) := by
  have h0 := h.1.1
  unfold fC_hasGore
  rw [r_gores hr]
  exact in_d (lo := 0) (hi := σ 0) x1 x2 (by omega) (by omega) (by omega) (by omega)
theorem hasSpot_d (hr : hR G σ) (h : hV B σ) (x1 : -2147483648 ≤ x) (x2 : x < 2147483648) : fG_hasSpot G (hI x) = decide (0 ≤ x ∧ x < σ 1) := by
  have h0 := h.1.2.1
  unfold fG_hasSpot
  rw [r_spots hr]
  exact in_d (lo := 0) (hi := σ 1) x1 x2 (by omega) (by omega) (by omega) (by omega)
theorem Xband_d (x1 : -2147483648 ≤ x) (x2 : x < 2147483648) : fX_isBand (hI x) = decide (0 ≤ x ∧ x < 9) := by
  unfold fX_isBand
  exact in_d (lo := 0) (hi := 9) x1 x2 (by omega) (by omega) (by omega) (by omega)
theorem Xmer_d (x1 : -2147483648 ≤ x) (x2 : x < 2147483648) : fX_isMeridian (hI x) = decide (0 ≤ x ∧ x < 360) := by
  unfold fX_isMeridian
  exact in_d (lo := 0) (hi := 360) x1 x2 (by omega) (by omega) (by omega) (by omega)
theorem Xdir_d (x1 : -2147483648 ≤ x) (x2 : x < 2147483648) : fX_isDirection (hI x) = decide (x = 0 ∨ x = 1) := by
  unfold fX_isDirection
  rw [show (0 : Int32) = hI 0 from rfl, show (1 : Int32) = hI 1 from rfl, ieq (by omega) (by omega) (by omega) (by omega), ieq (by omega) (by omega) (by omega) (by omega)]
  by_cases c : x = 0
  · rw [if_pos c, decide_eq_true (Or.inl c)]
  · rw [if_neg c]
    by_cases c2 : x = 1
    · rw [if_pos c2, decide_eq_true (Or.inr c2)]
    · rw [if_neg c2, decide_eq_false (by omega)]
theorem Mgore_d (h : hV B (hm M)) (x1 : -2147483648 ≤ x) (x2 : x < 2147483648) : fM_isGore M (hI x) = decide (0 ≤ x ∧ x < hm M 0) := by
  have h0 := h.1.1
  unfold fM_isGore
  rw [m_0, show (1 : Int32) = hI 1 from rfl, hI_sub, show (0 : Int64) = hL 0 from rfl, hI_long (show -2147483648 ≤ hm M 0 - 1 by omega) (by omega), isIn_e x1 x2 (by omega) (by omega) (by omega) (by omega)]
  exact decide_eq_decide.mpr (by omega)
theorem Mspot_d (h : hV B (hm M)) (x1 : -2147483648 ≤ x) (x2 : x < 2147483648) : fM_isSpot M (hI x) = decide (0 ≤ x ∧ x < hm M 1) := by
  have h0 := h.1.2.1
  unfold fM_isSpot
  rw [m_1, show (1 : Int32) = hI 1 from rfl, hI_sub, show (0 : Int64) = hL 0 from rfl, hI_long (show -2147483648 ≤ hm M 1 - 1 by omega) (by omega), isIn_e x1 x2 (by omega) (by omega) (by omega) (by omega)]
  exact decide_eq_decide.mpr (by omega)
theorem Mlabel_d (h : hV B (hm M)) (x1 : -2147483648 ≤ x) (x2 : x < 2147483648) : fM_isLabel M (hI x) = decide (0 ≤ x ∧ x < hm M 2) := by
  have h0 := h.1.2.2.1
  unfold fM_isLabel
  rw [m_2, show (1 : Int32) = hI 1 from rfl, hI_sub, show (0 : Int64) = hL 0 from rfl, hI_long (show -2147483648 ≤ hm M 2 - 1 by omega) (by omega), isIn_e x1 x2 (by omega) (by omega) (by omega) (by omega)]
  exact decide_eq_decide.mpr (by omega)
theorem Mband_d (x1 : -2147483648 ≤ x) (x2 : x < 2147483648) : fM_isBand (hI x) = decide (0 ≤ x ∧ x < 9) := by
  rw [isBand_d x1 x2]
  exact decide_eq_decide.mpr (by omega)
theorem Mmer_d (x1 : -2147483648 ≤ x) (x2 : x < 2147483648) : fM_isMeridian (hI x) = decide (0 ≤ x ∧ x < 360) := by
  unfold fM_isMeridian
  rw [show (0 : Int64) = hL 0 from rfl, show (359 : Int64) = hL 359 from rfl, isIn_e x1 x2 (by omega) (by omega) (by omega) (by omega)]
  exact decide_eq_decide.mpr (by omega)
theorem Mdir_d (x1 : -2147483648 ≤ x) (x2 : x < 2147483648) : fM_isIn (Int32.toInt64 (hI x)) 0 1 = decide (x = 0 ∨ x = 1) := by
  rw [show (0 : Int64) = hL 0 from rfl, show (1 : Int64) = hL 1 from rfl, isIn_e x1 x2 (by omega) (by omega) (by omega) (by omega)]
  exact decide_eq_decide.mpr (by omega)
theorem Mat_d (x1 : -2147483648 ≤ x) (x2 : x < 2147483648) (y1 : -2147483648 ≤ y) (y2 : y < 2147483648) : fM_isSpotAt (hI x) (hI y) = decide ((0 ≤ x ∧ x < 9) ∧ (0 ≤ y ∧ y < 360)) := by
  unfold fM_isSpotAt
  rw [Mband_d x1 x2, Mmer_d y1 y2]
  by_cases c1 : 0 ≤ x ∧ x < 9
  · rw [decide_eq_true c1, if_pos rfl]
    by_cases c2 : 0 ≤ y ∧ y < 360
    · rw [decide_eq_true c2, if_pos rfl, decide_eq_true ⟨c1, c2⟩]
    · rw [decide_eq_false c2, if_neg (by decide), decide_eq_false (fun z => c2 z.2)]
  · rw [decide_eq_false c1, if_neg (by decide), decide_eq_false (fun z => c1 z.1)]
theorem need_band_t (c : 0 ≤ x ∧ x < 9) : fX_needBand (hI x) = some (.inl ()) := by
  unfold fX_needBand
  rw [Xband_d (by omega) (by omega), decide_eq_true c, if_pos rfl]
theorem need_band_f (x1 : -2147483648 ≤ x) (x2 : x < 2147483648) (c : ¬ (0 ≤ x ∧ x < 9)) : fX_needBand (hI x) = some (.inr eA) := by
  unfold fX_needBand
  rw [Xband_d (by omega) (by omega), decide_eq_false c, if_neg (by decide)]; rfl
theorem need_place_t (c : (0 ≤ x ∧ x < 9) ∧ (0 ≤ y ∧ y < 360)) : fX_needPlace (hI x) (hI y) = some (.inl ()) := by
  unfold fX_needPlace
  rw [Xband_d (by omega) (by omega), decide_eq_true c.1, if_pos rfl, Xmer_d (by omega) (by omega), decide_eq_true c.2, if_pos rfl]
theorem need_place_f (x1 : -2147483648 ≤ x) (x2 : x < 2147483648) (y1 : -2147483648 ≤ y) (y2 : y < 2147483648) (c : ¬ ((0 ≤ x ∧ x < 9) ∧ (0 ≤ y ∧ y < 360))) : fX_needPlace (hI x) (hI y) = some (.inr eA) := by
  unfold fX_needPlace
  rw [Xband_d (by omega) (by omega), Xmer_d (by omega) (by omega)]
  by_cases c1 : 0 ≤ x ∧ x < 9
  · rw [decide_eq_true c1, if_pos rfl, decide_eq_false (fun z => c ⟨c1, z⟩), if_neg (by decide)]; rfl
  · rw [decide_eq_false c1, if_neg (by decide)]; rfl
theorem need_gore_t (hr : hR (Γ 10) (hm M)) (h : hV B (hm M)) (c : 0 ≤ x ∧ x < hm M 0) : fX_needGore Γ (hI x) = some (.inl ()) := by
  have h0 := h.1.1
  unfold fX_needGore
  rw [hasGore_d hr h (by omega) (by omega), decide_eq_true c, if_pos rfl]
theorem need_gore_f (hr : hR (Γ 10) (hm M)) (h : hV B (hm M)) (x1 : -2147483648 ≤ x) (x2 : x < 2147483648) (c : ¬ (0 ≤ x ∧ x < hm M 0)) : fX_needGore Γ (hI x) = some (.inr eX) := by
  unfold fX_needGore
  rw [hasGore_d hr h (by omega) (by omega), decide_eq_false c, if_neg (by decide)]; rfl
theorem need_spot_t (hr : hR (Γ 10) (hm M)) (h : hV B (hm M)) (c : 0 ≤ x ∧ x < hm M 1) : fX_needSpot Γ (hI x) = some (.inl ()) := by
  have h0 := h.1.2.1
  unfold fX_needSpot
  rw [hasSpot_d hr h (by omega) (by omega), decide_eq_true c, if_pos rfl]
theorem need_spot_f (hr : hR (Γ 10) (hm M)) (h : hV B (hm M)) (x1 : -2147483648 ≤ x) (x2 : x < 2147483648) (c : ¬ (0 ≤ x ∧ x < hm M 1)) : fX_needSpot Γ (hI x) = some (.inr eX) := by
  unfold fX_needSpot
  rw [hasSpot_d hr h (by omega) (by omega), decide_eq_false c, if_neg (by decide)]; rfl
theorem need_label_t (hr : hR (Γ 10) (hm M)) (h : hV B (hm M)) (c : 0 ≤ x ∧ x < hm M 2) : fX_needLabel Γ (hI x) = some (.inl ()) := by
  have h0 := h.1.2.2.1
  unfold fX_needLabel
  rw [r_labels hr, show (0 : Int32) = hI 0 from rfl, ilt (by omega) (by omega) (by omega) (by omega), if_neg (by omega), ilt (by omega) (by omega) (by omega) (by omega), if_pos c.2]
theorem need_label_f (hr : hR (Γ 10) (hm M)) (h : hV B (hm M)) (x1 : -2147483648 ≤ x) (x2 : x < 2147483648) (c : ¬ (0 ≤ x ∧ x < hm M 2)) : fX_needLabel Γ (hI x) = some (.inr eX) := by
  have h0 := h.1.2.2.1
  unfold fX_needLabel fX_needLabel_j15
  rw [r_labels hr, show (0 : Int32) = hI 0 from rfl, ilt (by omega) (by omega) (by omega) (by omega)]
  by_cases c1 : x < 0
  · rw [if_pos c1]; rfl
  · rw [if_neg c1, ilt (by omega) (by omega) (by omega) (by omega), if_neg (by omega)]; rfl
theorem q_widthOf (hg : hG B (Γ 10) (hm M)) (hB : B < 900000000) (x1 : -2147483648 ≤ x) (x2 : x < 2147483648) : QR M eX "" (fX_widthOf Γ (hI x)) (fM_widthOf M (hI x)) (fun p q => p = q) := by
  obtain ⟨hr, h, -⟩ := hg
  have h0 := h.1
  have hrr : hR (Γ 10) (hm (wmF M 0 0)) := hr
  have hh : hV B (hm (wmF M 0 0)) := h
  unfold fX_widthOf fM_widthOf  
  by_cases c : 0 ≤ x ∧ x < hm M 0
  · have c2 := c
    refine Or.inl ⟨hI (hm M (14 + x)), hI (hm M (14 + x)), ?_, ?_, rfl⟩
    · rw [need_gore_t hr h c, bnx_l]; rw [r_width hr c.1 c.2 (by omega), bnd_s]
    · rw [Mgore_d h (by omega) (by omega), decide_eq_true c, goes_t, bnd2_s, if_pos rfl]; rw [show (14 : Int32) = hI 14 from rfl, hI_add, mrd (by omega) (by omega), bnd_s] <;> rfl
  · refine Or.inr (Or.inl ⟨0, ?_, ?_⟩)
    · rw [need_gore_f hr h (by omega) (by omega) c, bnx_r]
    · rw [Mgore_d h (by omega) (by omega), decide_eq_false c, goes_f]; rfl
theorem q_stitchesOf (hg : hG B (Γ 10) (hm M)) (hB : B < 900000000) (x1 : -2147483648 ≤ x) (x2 : x < 2147483648) : QR M eX "" (fX_stitchesOf Γ (hI x)) (fM_stitchesOf M (hI x)) (fun p q => p = q) := by
  obtain ⟨hr, h, -⟩ := hg
  have h0 := h.1
  have hrr : hR (Γ 10) (hm (wmF M 0 0)) := hr
  have hh : hV B (hm (wmF M 0 0)) := h
  unfold fX_stitchesOf fM_stitchesOf  
  by_cases c : 0 ≤ x ∧ x < hm M 0
  · have c2 := c
    refine Or.inl ⟨hI (hm M (26 + x)), hI (hm M (26 + x)), ?_, ?_, rfl⟩
    · rw [need_gore_t hr h c, bnx_l]; rw [r_stitch hr c.1 c.2 (by omega), bnd_s]
    · rw [Mgore_d h (by omega) (by omega), decide_eq_true c, goes_t, bnd2_s, if_pos rfl]; rw [show (26 : Int32) = hI 26 from rfl, hI_add, mrd (by omega) (by omega), bnd_s] <;> rfl
  · refine Or.inr (Or.inl ⟨0, ?_, ?_⟩)
    · rw [need_gore_f hr h (by omega) (by omega) c, bnx_r]
    · rw [Mgore_d h (by omega) (by omega), decide_eq_false c, goes_f]; rfl
theorem q_beginOf (hg : hG B (Γ 10) (hm M)) (hB : B < 900000000) (x1 : -2147483648 ≤ x) (x2 : x < 2147483648) : QR M eX "" (fX_beginOf Γ (hI x)) (fM_beginOf M (hI x)) (fun p q => p = q) := by
  obtain ⟨hr, h, -⟩ := hg
  have h0 := h.1
  have hrr : hR (Γ 10) (hm (wmF M 0 0)) := hr
  have hh : hV B (hm (wmF M 0 0)) := h
  unfold fX_beginOf fM_beginOf  
  by_cases c : 0 ≤ x ∧ x < hm M 0
  · have c2 := c
    refine Or.inl ⟨hI (bg (hm M) x), hI (bg (hm M) x), ?_, ?_, rfl⟩
    · rw [need_gore_t hr h c, bnx_l]; rw [r_begin hr c.1 c.2 (by omega), bnd_s]
    · rw [Mgore_d h (by omega) (by omega), decide_eq_true c, goes_t, bnd2_s, if_pos rfl]; rw [m_begin hh c.1 (Int.le_of_lt c.2), bnd_s] <;> rfl
  · refine Or.inr (Or.inl ⟨0, ?_, ?_⟩)
    · rw [need_gore_f hr h (by omega) (by omega) c, bnx_r]
    · rw [Mgore_d h (by omega) (by omega), decide_eq_false c, goes_f]; rfl
theorem q_strainOf (hg : hG B (Γ 10) (hm M)) (hB : B < 900000000) (x1 : -2147483648 ≤ x) (x2 : x < 2147483648) : QR M eX "" (fX_strainOf Γ (hI x)) (fM_strainOf M (hI x)) (fun p q => p = q) := by
  obtain ⟨hr, h, -⟩ := hg
  have h0 := h.1
  have hrr : hR (Γ 10) (hm (wmF M 0 0)) := hr
  have hh : hV B (hm (wmF M 0 0)) := h
  unfold fX_strainOf fM_strainOf  
  by_cases c : 0 ≤ x ∧ x < hm M 0
  · have c2 := c
    refine Or.inl ⟨hI (stn (hm M) x), hI (stn (hm M) x), ?_, ?_, rfl⟩
    · rw [need_gore_t hr h c, bnx_l]; rw [c_strain (hR_C hr) h c.1 c.2, bnd_s]
    · rw [Mgore_d h (by omega) (by omega), decide_eq_true c, goes_t, bnd2_s, if_pos rfl]; rw [m_strain hh c.1 c.2, bnd_s] <;> rfl
  · refine Or.inr (Or.inl ⟨0, ?_, ?_⟩)
    · rw [need_gore_f hr h (by omega) (by omega) c, bnx_r]
    · rw [Mgore_d h (by omega) (by omega), decide_eq_false c, goes_f]; rfl
theorem q_hemAt (hg : hG B (Γ 10) (hm M)) (hB : B < 900000000) (x1 : -2147483648 ≤ x) (x2 : x < 2147483648) : QR M eA "" (fX_hemAt Γ (hI x)) (fM_hemAt M (hI x)) (fun p q => p = q) := by
  obtain ⟨hr, h, -⟩ := hg
  have h0 := h.1
  have hrr : hR (Γ 10) (hm (wmF M 0 0)) := hr
  have hh : hV B (hm (wmF M 0 0)) := h
  unfold fX_hemAt fM_hemAt  
  by_cases c : 0 ≤ x ∧ x < 9
  · have c2 := c
    refine Or.inl ⟨hI (hm M (5 + x)), hI (hm M (5 + x)), ?_, ?_, rfl⟩
    · rw [need_band_t c, bnx_l]; rw [r_hem hr c.1 c.2, bnd_s]
    · rw [Mband_d (by omega) (by omega), decide_eq_true c, goes_t, bnd2_s, if_pos rfl]; rw [show (5 : Int32) = hI 5 from rfl, hI_add, mrd (by omega) (by omega), bnd_s] <;> rfl
  · refine Or.inr (Or.inl ⟨0, ?_, ?_⟩)
    · rw [need_band_f (by omega) (by omega) c, bnx_r]
    · rw [Mband_d (by omega) (by omega), decide_eq_false c, goes_f]; rfl
theorem q_longitude (hg : hG B (Γ 10) (hm M)) (hB : B < 900000000) (x1 : -2147483648 ≤ x) (x2 : x < 2147483648) (y1 : -2147483648 ≤ y) (y2 : y < 2147483648) : QR M eA "" (fX_longitude Γ (hI x) (hI y)) (fM_longitude M (hI x) (hI y)) (fun p q => p = q) := by
  obtain ⟨hr, h, -⟩ := hg
  have h0 := h.1
  have hrr : hR (Γ 10) (hm (wmF M 0 0)) := hr
  have hh : hV B (hm (wmF M 0 0)) := h
  unfold fX_longitude fM_longitude  
  by_cases c : (0 ≤ x ∧ x < 9) ∧ (0 ≤ y ∧ y < 360)
  · have c2 := c
    refine Or.inl ⟨hI (lo (hm M) x y), hI (lo (hm M) x y), ?_, ?_, rfl⟩
    · rw [need_place_t c, bnx_l]; rw [g_lon hr h c.1.1 c.1.2 c.2.1 c.2.2, bnd_s]
    · rw [Mat_d (by omega) (by omega) (by omega) (by omega), decide_eq_true c, goes_t, bnd2_s, if_pos rfl]; rw [m_lon hh c.1.1 c.1.2 c.2.1 c.2.2, bnd_s] <;> rfl
  · refine Or.inr (Or.inl ⟨0, ?_, ?_⟩)
    · rw [need_place_f (by omega) (by omega) (by omega) (by omega) c, bnx_r]
    · rw [Mat_d (by omega) (by omega) (by omega) (by omega), decide_eq_false c, goes_f]; rfl
theorem q_dayAt (hg : hG B (Γ 10) (hm M)) (hB : B < 900000000) (x1 : -2147483648 ≤ x) (x2 : x < 2147483648) (y1 : -2147483648 ≤ y) (y2 : y < 2147483648) : QR M eA "" (fX_dayAt Γ (hI x) (hI y)) (fM_dayAt M (hI x) (hI y)) (fun p q => p = q) := by
  obtain ⟨hr, h, -⟩ := hg
  have h0 := h.1
  have hrr : hR (Γ 10) (hm (wmF M 0 0)) := hr
  have hh : hV B (hm (wmF M 0 0)) := h
  unfold fX_dayAt fM_dayAt  
  by_cases c : (0 ≤ x ∧ x < 9) ∧ (0 ≤ y ∧ y < 360)
  · have c2 := c
    refine Or.inl ⟨hI (lh (hm M) x y / 24), hI (lh (hm M) x y / 24), ?_, ?_, rfl⟩
    · rw [need_place_t c, bnx_l]; rw [g_ld hr h (by omega) c.1.1 c.1.2 c.2.1 c.2.2, bnd_s]
    · rw [Mat_d (by omega) (by omega) (by omega) (by omega), decide_eq_true c, goes_t, bnd2_s, if_pos rfl]; rw [m_ld hh (by omega) c.1.1 c.1.2 c.2.1 c.2.2, bnd_s] <;> rfl
  · refine Or.inr (Or.inl ⟨0, ?_, ?_⟩)
    · rw [need_place_f (by omega) (by omega) (by omega) (by omega) c, bnx_r]
    · rw [Mat_d (by omega) (by omega) (by omega) (by omega), decide_eq_false c, goes_f]; rfl
theorem q_hourAt (hg : hG B (Γ 10) (hm M)) (hB : B < 900000000) (x1 : -2147483648 ≤ x) (x2 : x < 2147483648) (y1 : -2147483648 ≤ y) (y2 : y < 2147483648) : QR M eA "" (fX_hourAt Γ (hI x) (hI y)) (fM_hourAt M (hI x) (hI y)) (fun p q => p = q) := by
  obtain ⟨hr, h, -⟩ := hg
  have h0 := h.1
  have hrr : hR (Γ 10) (hm (wmF M 0 0)) := hr
  have hh : hV B (hm (wmF M 0 0)) := h
  unfold fX_hourAt fM_hourAt  
  by_cases c : (0 ≤ x ∧ x < 9) ∧ (0 ≤ y ∧ y < 360)
  · have c2 := c
    refine Or.inl ⟨hI (lh (hm M) x y % 24), hI (lh (hm M) x y % 24), ?_, ?_, rfl⟩
    · rw [need_place_t c, bnx_l]; rw [g_lhr hr h (by omega) c.1.1 c.1.2 c.2.1 c.2.2, bnd_s]
    · rw [Mat_d (by omega) (by omega) (by omega) (by omega), decide_eq_true c, goes_t, bnd2_s, if_pos rfl]; rw [m_lhr hh (by omega) c.1.1 c.1.2 c.2.1 c.2.2, bnd_s] <;> rfl
  · refine Or.inr (Or.inl ⟨0, ?_, ?_⟩)
    · rw [need_place_f (by omega) (by omega) (by omega) (by omega) c, bnx_r]
    · rw [Mat_d (by omega) (by omega) (by omega) (by omega), decide_eq_false c, goes_f]; rfl
theorem q_bandOf (hg : hG B (Γ 10) (hm M)) (hB : B < 900000000) (x1 : -2147483648 ≤ x) (x2 : x < 2147483648) : QR M eX "" (fX_bandOf Γ (hI x)) (fM_bandOf M (hI x)) (fun p q => p = q) := by
  obtain ⟨hr, h, -⟩ := hg
  have h0 := h.1
  unfold fX_bandOf fM_bandOf fM_inSpot
  by_cases c : 0 ≤ x ∧ x < hm M 1
  · refine Or.inl ⟨hI (hm M (38 + 9 * x + 3)), hI (hm M (38 + 9 * x + 3)), ?_, ?_, rfl⟩
    · rw [need_spot_t hr h c, bnx_l, rix_hI c.1 (by omega) (by omega), bnd_s, r_s2 hr c.1 c.2]
    · rw [Mspot_d h (by omega) (by omega), decide_eq_true c, goes_t, bnd2_s, if_pos rfl, show (3 : Int32) = hI 3 from rfl, m_of c.1 (by omega) (by omega) (by omega), bnd_s] <;> rfl
  · refine Or.inr (Or.inl ⟨0, ?_, ?_⟩)
    · rw [need_spot_f hr h (by omega) (by omega) c, bnx_r]
    · rw [Mspot_d h (by omega) (by omega), decide_eq_false c, goes_f]; rfl
theorem q_meridianOf (hg : hG B (Γ 10) (hm M)) (hB : B < 900000000) (x1 : -2147483648 ≤ x) (x2 : x < 2147483648) : QR M eX "" (fX_meridianOf Γ (hI x)) (fM_meridianOf M (hI x)) (fun p q => p = q) := by
  obtain ⟨hr, h, -⟩ := hg
  have h0 := h.1
  unfold fX_meridianOf fM_meridianOf fM_inSpot
  by_cases c : 0 ≤ x ∧ x < hm M 1
  · refine Or.inl ⟨hI (hm M (38 + 9 * x + 4)), hI (hm M (38 + 9 * x + 4)), ?_, ?_, rfl⟩
    · rw [need_spot_t hr h c, bnx_l, rix_hI c.1 (by omega) (by omega), bnd_s, r_s3 hr c.1 c.2]
    · rw [Mspot_d h (by omega) (by omega), decide_eq_true c, goes_t, bnd2_s, if_pos rfl, show (4 : Int32) = hI 4 from rfl, m_of c.1 (by omega) (by omega) (by omega), bnd_s] <;> rfl
  · refine Or.inr (Or.inl ⟨0, ?_, ?_⟩)
    · rw [need_spot_f hr h (by omega) (by omega) c, bnx_r]
    · rw [Mspot_d h (by omega) (by omega), decide_eq_false c, goes_f]; rfl
theorem q_degreesLeft (hg : hG B (Γ 10) (hm M)) (hB : B < 900000000) (x1 : -2147483648 ≤ x) (x2 : x < 2147483648) : QR M eX "" (fX_degreesLeft Γ (hI x)) (fM_degreesLeft M (hI x)) (fun p q => p = q) := by
  obtain ⟨hr, h, -⟩ := hg
  have h0 := h.1
  unfold fX_degreesLeft fM_degreesLeft fM_inSpot
  by_cases c : 0 ≤ x ∧ x < hm M 1
  · refine Or.inl ⟨hI (hm M (38 + 9 * x + 7)), hI (hm M (38 + 9 * x + 7)), ?_, ?_, rfl⟩
    · rw [need_spot_t hr h c, bnx_l, rix_hI c.1 (by omega) (by omega), bnd_s, r_s6 hr c.1 c.2]
    · rw [Mspot_d h (by omega) (by omega), decide_eq_true c, goes_t, bnd2_s, if_pos rfl, show (7 : Int32) = hI 7 from rfl, m_of c.1 (by omega) (by omega) (by omega), bnd_s] <;> rfl
  · refine Or.inr (Or.inl ⟨0, ?_, ?_⟩)
    · rw [need_spot_f hr h (by omega) (by omega) c, bnx_r]
    · rw [Mspot_d h (by omega) (by omega), decide_eq_false c, goes_f]; rfl
theorem q_crossingsOf (hg : hG B (Γ 10) (hm M)) (hB : B < 900000000) (x1 : -2147483648 ≤ x) (x2 : x < 2147483648) : QR M eX "" (fX_crossingsOf Γ (hI x)) (fM_crossingsOf M (hI x)) (fun p q => p = q) := by
  obtain ⟨hr, h, -⟩ := hg
  have h0 := h.1
  unfold fX_crossingsOf fM_crossingsOf fM_inSpot
  by_cases c : 0 ≤ x ∧ x < hm M 1
  · refine Or.inl ⟨hI (hm M (38 + 9 * x + 8)), hI (hm M (38 + 9 * x + 8)), ?_, ?_, rfl⟩
    · rw [need_spot_t hr h c, bnx_l, rix_hI c.1 (by omega) (by omega), bnd_s, r_s7 hr c.1 c.2]
    · rw [Mspot_d h (by omega) (by omega), decide_eq_true c, goes_t, bnd2_s, if_pos rfl, show (8 : Int32) = hI 8 from rfl, m_of c.1 (by omega) (by omega) (by omega), bnd_s] <;> rfl
  · refine Or.inr (Or.inl ⟨0, ?_, ?_⟩)
    · rw [need_spot_f hr h (by omega) (by omega) c, bnx_r]
    · rw [Mspot_d h (by omega) (by omega), decide_eq_false c, goes_f]; rfl
theorem q_labelBand (hg : hG B (Γ 10) (hm M)) (hB : B < 900000000) (x1 : -2147483648 ≤ x) (x2 : x < 2147483648) : QR M eX "" (fX_labelBand Γ (hI x)) (fM_labelBand M (hI x)) (fun p q => p = q) := by
  obtain ⟨hr, h, -⟩ := hg
  have h0 := h.1
  unfold fX_labelBand fM_labelBand fM_inLabel
  by_cases c : 0 ≤ x ∧ x < hm M 2
  · refine Or.inl ⟨hI (hm M (128 + 4 * x + 0)), hI (hm M (128 + 4 * x + 0)), ?_, ?_, rfl⟩
    · rw [need_label_t hr h c, bnx_l, rix_hI c.1 (by omega) (by omega), bnd_s, r_l0 hr c.1 c.2]
    · rw [Mlabel_d h (by omega) (by omega), decide_eq_true c, goes_t, bnd2_s, if_pos rfl, show (0 : Int32) = hI 0 from rfl, m_its c.1 (by omega) (by omega) (by omega), bnd_s] <;> rfl
  · refine Or.inr (Or.inl ⟨0, ?_, ?_⟩)
    · rw [need_label_f hr h (by omega) (by omega) c, bnx_r]
    · rw [Mlabel_d h (by omega) (by omega), decide_eq_false c, goes_f]; rfl
theorem q_labelFirst (hg : hG B (Γ 10) (hm M)) (hB : B < 900000000) (x1 : -2147483648 ≤ x) (x2 : x < 2147483648) : QR M eX "" (fX_labelFirst Γ (hI x)) (fM_labelFirst M (hI x)) (fun p q => p = q) := by
  obtain ⟨hr, h, -⟩ := hg
  have h0 := h.1
  unfold fX_labelFirst fM_labelFirst fM_inLabel
  by_cases c : 0 ≤ x ∧ x < hm M 2
  · refine Or.inl ⟨hI (hm M (128 + 4 * x + 1)), hI (hm M (128 + 4 * x + 1)), ?_, ?_, rfl⟩
    · rw [need_label_t hr h c, bnx_l, rix_hI c.1 (by omega) (by omega), bnd_s, r_l1 hr c.1 c.2]
    · rw [Mlabel_d h (by omega) (by omega), decide_eq_true c, goes_t, bnd2_s, if_pos rfl, show (1 : Int32) = hI 1 from rfl, m_its c.1 (by omega) (by omega) (by omega), bnd_s] <;> rfl
  · refine Or.inr (Or.inl ⟨0, ?_, ?_⟩)
    · rw [need_label_f hr h (by omega) (by omega) c, bnx_r]
    · rw [Mlabel_d h (by omega) (by omega), decide_eq_false c, goes_f]; rfl
theorem q_labelLast (hg : hG B (Γ 10) (hm M)) (hB : B < 900000000) (x1 : -2147483648 ≤ x) (x2 : x < 2147483648) : QR M eX "" (fX_labelLast Γ (hI x)) (fM_labelLast M (hI x)) (fun p q => p = q) := by
  obtain ⟨hr, h, -⟩ := hg
  have h0 := h.1
  have hrr : hR (Γ 10) (hm (wmF M 0 0)) := hr
  have hh : hV B (hm (wmF M 0 0)) := h
  unfold fX_labelLast fM_labelLast  
  by_cases c : 0 ≤ x ∧ x < hm M 2
  · have c2 := c
    refine Or.inl ⟨hI (hm M (128 + 4 * x + 1) + hm M (128 + 4 * x + 2) - 1), hI (hm M (128 + 4 * x + 1) + hm M (128 + 4 * x + 2) - 1), ?_, ?_, rfl⟩
    · rw [need_label_t hr h c, bnx_l]; rw [rix_hI c.1 (by omega) (by omega), bnd_s, r_l2 hr c.1 c.2]
    · rw [Mlabel_d h (by omega) (by omega), decide_eq_true c, goes_t, bnd2_s, if_pos rfl]; rw [m_last c.1 (by omega), bnd_s] <;> rfl
  · refine Or.inr (Or.inl ⟨0, ?_, ?_⟩)
    · rw [need_label_f hr h (by omega) (by omega) c, bnx_r]
    · rw [Mlabel_d h (by omega) (by omega), decide_eq_false c, goes_f]; rfl
theorem q_isLabelTorn (hg : hG B (Γ 10) (hm M)) (hB : B < 900000000) (x1 : -2147483648 ≤ x) (x2 : x < 2147483648) : QR M eX "" (fX_isLabelTorn Γ (hI x)) (fM_isLabelTorn M (hI x)) (fun p q => p = q) := by
  obtain ⟨hr, h, -⟩ := hg
  have h0 := h.1
  have hq := h.2.2.2.2.2.2 (128 + 4 * x + 3)
  unfold fX_isLabelTorn fM_isLabelTorn
  by_cases c : 0 ≤ x ∧ x < hm M 2
  · have e : (bnd2 (fM_goes M (fM_isLabel M (hI x))) fun v2 M1 => if v2 = true then bnd (fM_its M1 (hI x) 3) fun v4 => if v4 = 1 then some (true, M1) else some (false, M1) else some (false, M1)) = some (decide (hm M (128 + 4 * x + 3) = 1), wmF M 0 0) := by
      rw [Mlabel_d h (by omega) (by omega), decide_eq_true c, goes_t, bnd2_s, if_pos rfl, show (3 : Int32) = hI 3 from rfl, m_its c.1 (by omega) (by omega) (by omega), bnd_s, show (1 : Int32) = hI 1 from rfl, hm_L, ieq hq.1 hq.2 (by omega) (by omega)]
      by_cases e : hm M (128 + 4 * x + 3) = 1
      · rw [decide_eq_true e]; exact if_pos e
      · rw [decide_eq_false e]; exact if_neg e
    refine Or.inl ⟨decide (hm M (128 + 4 * x + 3) = 1), _, ?_, e, rfl⟩
    rw [need_label_t hr h c, bnx_l, rix_hI c.1 (by omega) (by omega), bnd_s, r_lt hr c.1 c.2]
  · refine Or.inr (Or.inl ⟨false, ?_, ?_⟩)
    · rw [need_label_f hr h (by omega) (by omega) c, bnx_r]
    · rw [Mlabel_d h (by omega) (by omega), decide_eq_false c, goes_f]; rfl
theorem q_isTraveller (hg : hG B (Γ 10) (hm M)) (hB : B < 900000000) (x1 : -2147483648 ≤ x) (x2 : x < 2147483648) : QR M eX "" (fX_isTraveller Γ (hI x)) (fM_isTraveller M (hI x)) (fun p q => p = q) := by
  obtain ⟨hr, h, -⟩ := hg
  have h0 := h.1
  unfold fX_isTraveller fM_isTraveller
  by_cases c : 0 ≤ x ∧ x < hm M 1
  · have e : (bnd2 (fM_goes M (fM_isSpot M (hI x))) fun v2 M1 => if v2 = true then bnd (fM_travels M1 (hI x)) fun v4 => if v4 = true then some (true, M1) else some (false, M1) else some (false, M1)) = some (decide (hm M (38 + 9 * x + 2) = 1), wmF M 0 0) := by
      rw [Mspot_d h (by omega) (by omega), decide_eq_true c, goes_t, bnd2_s, if_pos rfl, m_trav c.1 (by omega), bnd_s]
      by_cases e : hm M (38 + 9 * x + 2) = 1
      · rw [decide_eq_true e]; exact if_pos (decide_eq_true e)
      · rw [decide_eq_false e]; exact if_neg (by rw [show decide (hm (wmF M 0 0) (38 + 9 * x + 2) = 1) = false from decide_eq_false e]; decide)
    refine Or.inl ⟨decide (hm M (38 + 9 * x + 2) = 1), _, ?_, e, rfl⟩
    rw [need_spot_t hr h c, bnx_l, rix_hI c.1 (by omega) (by omega), bnd_s, r_trav hr c.1 c.2]
  · refine Or.inr (Or.inl ⟨false, ?_, ?_⟩)
    · rw [need_spot_f hr h (by omega) (by omega) c, bnx_r]
    · rw [Mspot_d h (by omega) (by omega), decide_eq_false c, goes_f]; rfl
theorem q_dayOf (hg : hG B (Γ 10) (hm M)) (hB : B < 900000000) (x1 : -2147483648 ≤ x) (x2 : x < 2147483648) : QR M eX "" (fX_dayOf Γ (hI x)) (fM_dayOf M (hI x)) (fun p q => p = q) := by
  obtain ⟨hr, h, -⟩ := hg
  have h0 := h.1
  have hh : hV B (hm (wmF M 0 0)) := h
  unfold fX_dayOf fM_dayOf
  by_cases c : 0 ≤ x ∧ x < hm M 1
  · have hs := h.2.2.2.1 x c.1 c.2
    unfold hVs at hs
    rw [need_spot_t hr h c, bnx_l, rix_hI c.1 (by omega) (by omega), bnd_s, r_trav hr c.1 c.2, Mspot_d h (by omega) (by omega), decide_eq_true c, goes_t, bnd2_s, if_pos rfl, m_trav c.1 (by omega), bnd_s]
    by_cases e : hm M (38 + 9 * x + 2) = 1
    · refine Or.inl ⟨hI (hm M (38 + 9 * x + 5)), hI (hm M (38 + 9 * x + 5)), ?_, ?_, rfl⟩
      · rw [decide_eq_true e, if_pos rfl, r_s4 hr c.1 c.2]
      · rw [show decide (hm (wmF M 0 0) (38 + 9 * x + 2) = 1) = true from decide_eq_true e, if_pos rfl, show (5 : Int32) = hI 5 from rfl, m_of c.1 (by omega) (by omega) (by omega), bnd_s] <;> rfl
    · refine Or.inl ⟨hI (lh (hm M) (hm M (38 + 9 * x + 3)) (hm M (38 + 9 * x + 4)) / 24), hI (lh (hm M) (hm M (38 + 9 * x + 3)) (hm M (38 + 9 * x + 4)) / 24), ?_, ?_, rfl⟩
      · rw [decide_eq_false e, if_neg (by decide), r_s2 hr c.1 c.2, r_s3 hr c.1 c.2, g_ld hr h (by omega) (by omega) (by omega) (by omega) (by omega), bnd_s]
      · rw [show decide (hm (wmF M 0 0) (38 + 9 * x + 2) = 1) = false from decide_eq_false e, if_neg (by decide), m_dayn hh (by omega) c.1 c.2, bnd_s] <;> rfl
  · refine Or.inr (Or.inl ⟨0, ?_, ?_⟩)
    · rw [need_spot_f hr h (by omega) (by omega) c, bnx_r]
    · rw [Mspot_d h (by omega) (by omega), decide_eq_false c, goes_f]; rfl
theorem q_nameByte (hg : hG B (Γ 10) (hm M)) (hB : B < 900000000) (x1 : -2147483648 ≤ x) (x2 : x < 2147483648) (y1 : -2147483648 ≤ y) (y2 : y < 2147483648) : QR M eX "" (fX_nameByte Γ (hI x) (hI y)) (fM_nameByte M (hI x) (hI y)) (fun p q => p = q) := by
  obtain ⟨hr, h, -⟩ := hg
  have h0 := h.1
  have hr2 : hR (Γ 10) (hm (wmF M 0 0)) := hr
  have hh : hV B (hm (wmF M 0 0)) := h
  unfold fX_nameByte fM_nameByte
  by_cases c : 0 ≤ x ∧ x < hm M 1
  · obtain ⟨l, l1, l2, l3⟩ := m_name hr2 hh c.1 c.2
    obtain ⟨u, u1, u2⟩ := t_letter l1 y1 y2
    refine Or.inl ⟨u, u, ?_, ?_, rfl⟩
    · rw [need_spot_t hr h c, bnx_l, rix_hI c.1 (by omega) (by omega), bnd_s, l2, u1, bnd_s]
    · rw [Mspot_d h (by omega) (by omega), decide_eq_true c, goes_t, bnd2_s, if_pos rfl, l3, bnd_s, u2, bnd_s]
  · refine Or.inr (Or.inl ⟨0, ?_, ?_⟩)
    · rw [need_spot_f hr h (by omega) (by omega) c, bnx_r]
    · rw [Mspot_d h (by omega) (by omega), decide_eq_false c, goes_f]; rfl
theorem q_labelAt (hg : hG B (Γ 10) (hm M)) (hB : B < 900000000) (x1 : -2147483648 ≤ x) (x2 : x < 2147483648) (y1 : -2147483648 ≤ y) (y2 : y < 2147483648) : QR M eA "" (fX_labelAt Γ (hI x) (hI y)) (fM_labelAt M (hI x) (hI y)) (fun p q => p = q) := by
  obtain ⟨hr, h, -⟩ := hg
  have hr2 : hR (Γ 10) (hm (wmF M 0 0)) := hr
  have hh : hV B (hm (wmF M 0 0)) := h
  unfold fX_labelAt fM_labelAt
  by_cases c : (0 ≤ x ∧ x < 9) ∧ (0 ≤ y ∧ y < 360)
  · obtain ⟨u, u1, u2, -⟩ := t_on (m := y) hr2 hh c.1.1 c.1.2 (by omega) (by omega)
    refine Or.inl ⟨hI u, hI u, ?_, ?_, rfl⟩
    · rw [need_place_t c, bnx_l, u1, bnd_s]
    · rw [Mat_d (by omega) (by omega) (by omega) (by omega), decide_eq_true c, goes_t, bnd2_s, if_pos rfl, u2, bnd_s]
  · refine Or.inr (Or.inl ⟨0, ?_, ?_⟩)
    · rw [need_place_f (by omega) (by omega) (by omega) (by omega) c, bnx_r]
    · rw [Mat_d (by omega) (by omega) (by omega) (by omega), decide_eq_false c, goes_f]; rfl
theorem q_hemObstacle (hg : hG B (Γ 10) (hm M)) (hB : B < 900000000) (x1 : -2147483648 ≤ x) (x2 : x < 2147483648) (y1 : -2147483648 ≤ y) (y2 : y < 2147483648) : QR M eA "" (fX_hemObstacle Γ (hI x) (hI y)) (fM_hemObstacle M (hI x) (hI y)) (fun p q => p = q) := by
  obtain ⟨hr, h, -⟩ := hg
  have hr2 : hR (Γ 10) (hm (wmF M 0 0)) := hr
  have hh : hV B (hm (wmF M 0 0)) := h
  unfold fX_hemObstacle fM_hemObstacle
  by_cases c : (0 ≤ x ∧ x < 9) ∧ (0 ≤ y ∧ y < 360)
  · obtain ⟨u, -, -, u1, u2, -⟩ := t_hemWhy (m := y) hr2 hh c.1.1 c.1.2 c.2.1 c.2.2
    refine Or.inl ⟨hI u, hI u, ?_, ?_, rfl⟩
    · rw [need_place_t c, bnx_l, u1, bnd_s]
    · rw [Mat_d (by omega) (by omega) (by omega) (by omega), decide_eq_true c, goes_t, bnd2_s, if_pos rfl, u2, bnd_s]
  · refine Or.inr (Or.inl ⟨0, ?_, ?_⟩)
    · rw [need_place_f (by omega) (by omega) (by omega) (by omega) c, bnx_r]
    · rw [Mat_d (by omega) (by omega) (by omega) (by omega), decide_eq_false c, goes_f]; rfl
theorem q_labelObstacle (hg : hG B (Γ 10) (hm M)) (hB : B < 900000000) {n : Int} (hb : hBy I M n) (eI : iF I 1 = hI n) (eM : mF M 2 = hI n) (n1 : 0 ≤ n) (n2 : n ≤ 600) (x1 : -2147483648 ≤ x) (x2 : x < 2147483648) (y1 : -2147483648 ≤ y) (y2 : y < 2147483648) : QR M eA "" (fX_labelObstacle I Γ (hI x) (hI y)) (fM_labelObstacle M (hI x) (hI y)) (fun p q => p = q) := by
  obtain ⟨hr, h, -⟩ := hg
  have hr2 : hR (Γ 10) (hm (wmF M 0 0)) := hr
  have hh : hV B (hm (wmF M 0 0)) := h
  unfold fX_labelObstacle fM_labelObstacle
  by_cases c : (0 ≤ x ∧ x < 9) ∧ (0 ≤ y ∧ y < 360)
  · rcases t_word (M := wmF M 0 0) hb eI (by rw [mF_ne (by decide)]; exact eM) n1 n2 with ⟨l, l1, l2, l3⟩ | ⟨l2, l3⟩
    · obtain ⟨u, -, -, u1, u2, -⟩ := t_labelWhy l1 hr2 hh c.1.1 c.1.2 c.2.1 c.2.2
      refine Or.inl ⟨hI u, hI u, ?_, ?_, rfl⟩
      · rw [need_place_t c, bnx_l, l2, bnd_s, w_count l1, bnd_s, u1, bnd_s]
      · rw [Mat_d (by omega) (by omega) (by omega) (by omega), decide_eq_true c, goes_t, bnd2_s, if_pos rfl, l3, bnd_s, u2, bnd_s]
    · obtain ⟨u1, u2⟩ := t_labelWhy0 (G := Γ 10) (M := wmF M 0 0) (f := y) c.1.1 c.1.2
      refine Or.inl ⟨hI 1, hI 1, ?_, ?_, rfl⟩
      · rw [need_place_t c, bnx_l, l2, bnd_s, w_count0, bnd_s, u1, bnd_s]
      · rw [Mat_d (by omega) (by omega) (by omega) (by omega), decide_eq_true c, goes_t, bnd2_s, if_pos rfl, l3, bnd_s, u2, bnd_s]
  · refine Or.inr (Or.inl ⟨0, ?_, ?_⟩)
    · rw [need_place_f (by omega) (by omega) (by omega) (by omega) c, bnx_r]
    · rw [Mat_d (by omega) (by omega) (by omega) (by omega), decide_eq_false c, goes_f]; rfl
theorem q_stepObstacle (hg : hG B (Γ 10) (hm M)) (hB : B < 900000000) (x1 : -2147483648 ≤ x) (x2 : x < 2147483648) (y1 : -2147483648 ≤ y) (y2 : y < 2147483648) : QR M eX eA (fX_stepObstacle Γ (hI x) (hI y)) (fM_stepObstacle M (hI x) (hI y)) (fun p q => p = q) := by
  obtain ⟨hr, h, -⟩ := hg
  have h0 := h.1
  have hr2 : hR (Γ 10) (hm (wmF M 0 0)) := hr
  have hh : hV B (hm (wmF M 0 0)) := h
  unfold fX_stepObstacle fM_stepObstacle
  rw [Mspot_d h (by omega) (by omega), Mdir_d (by omega) (by omega), Xdir_d (by omega) (by omega)]
  by_cases c : 0 ≤ x ∧ x < hm M 1
  · rw [need_spot_t hr h c, bnx_l, decide_eq_true c]
    by_cases cd : y = 0 ∨ y = 1
    · obtain ⟨u, -, -, u1, u2, -⟩ := t_stepWhy hr2 hh c.1 c.2 cd
      refine Or.inl ⟨hI u, hI u, ?_, ?_, rfl⟩
      · rw [decide_eq_true cd, if_pos rfl, rix_hI c.1 (by omega) (by omega), bnd_s, u1, bnd_s]
      · rw [decide_eq_true cd, both_tt, bnd2_s, if_pos rfl, u2, bnd_s]
    · refine Or.inr (Or.inr ⟨0, ?_, ?_, by decide⟩)
      · rw [decide_eq_false cd, if_neg (by decide)]; rfl
      · rw [decide_eq_false cd, both_tf]; rfl
  · refine Or.inr (Or.inl ⟨0, ?_, ?_⟩)
    · rw [need_spot_f hr h (by omega) (by omega) c, bnx_r]
    · rw [decide_eq_false c, both_f]; rfl
end HHQ

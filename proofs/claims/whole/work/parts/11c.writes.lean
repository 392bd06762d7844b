/-! WRITINGS: the relation and the bounds go on -/
section HHC
variable {σ τ : Int → Int} {M M1 M2 : zM} {G Go : zG} {z v w k B : Int}
theorem gF_w {r c r' c' : Nat} {x : Int32} : gF (wgF G r c x) r' c' = if r' = r ∧ c' = c then x else gF G r' c' := by
  unfold gF wgF z2 z1
  dsimp only
  by_cases h1 : r' = r
  · subst h1
    rw [if_pos rfl]
    by_cases h2 : c' = c
    · rw [if_pos h2, if_pos ⟨rfl, h2⟩]
    · rw [if_neg h2, if_neg (fun h => h2 h.2)]
  · rw [if_neg h1, if_neg (fun h => h1 h.1)]
theorem gN_w {r c : Nat} {x : Int32} : gN (wgF G r c x) = gN G := rfl
theorem gA_w {r c : Nat} {x : Int32} : gA (wgF G r c x) = gA G := rfl
theorem gB_w {r c : Nat} {x : Int32} : gB (wgF G r c x) = gB G := rfl
theorem gA_wA {r r' : Nat} {f : Nat → Int32} : gA (wgA G r f) r' = if r' = r then f else gA G r' := rfl
theorem gF_wA {r : Nat} {f : Nat → Int32} : gF (wgA G r f) = gF G := rfl
theorem gN_wA {r : Nat} {f : Nat → Int32} : gN (wgA G r f) = gN G := rfl
theorem gB_wA {r : Nat} {f : Nat → Int32} : gB (wgA G r f) = gB G := rfl
theorem gB_wB {r r' : Nat} {b : Bool} : gB (wgB G r b) r' = if r' = r then b else gB G r' := rfl
theorem gF_wB {r : Nat} {b : Bool} : gF (wgB G r b) = gF G := rfl
theorem gN_wB {r : Nat} {b : Bool} : gN (wgB G r b) = gN G := rfl
theorem gA_wB {r : Nat} {b : Bool} : gA (wgB G r b) = gA G := rfl
theorem gN_wN {r r' : Nat} {x : Int64} : gN (wgN G r x) r' = if r' = r then x else gN G r' := rfl
theorem gF_wN {r : Nat} {x : Int64} : gF (wgN G r x) = gF G := rfl
theorem gA_wN {r : Nat} {x : Int64} : gA (wgN G r x) = gA G := rfl
theorem gB_wN {r : Nat} {x : Int64} : gB (wgN G r x) = gB G := rfl
theorem upd_w {f : Nat → Int32} {a b : Nat} {x : Int32} : upd f a x b = if b = a then x else f b := rfl
theorem hR_clock (b0 : σ 0 ≤ 12) (b1 : σ 1 ≤ 10) (b2 : σ 2 ≤ 8) (h : hR G σ) : hR (wgF G 0 2 (hI v)) (hu σ (4) v) := by
  obtain ⟨⟨a1, a2, a3, a4, a5⟩, ah, ac, as_, al⟩ := h
  have e : ∀ w : Int, w ≠ 4 → hu σ (4) v w = σ w := fun w hw => hu_ne hw
  refine ⟨⟨by rw [gF_w, if_neg (by omega), e _ (by omega)]; exact a1, by rw [gF_w, if_pos ⟨rfl, rfl⟩, hu_same, hI_hw], by rw [gF_w, if_neg (by omega), e _ (by omega)]; exact a3, by rw [gF_w, if_neg (by omega), e _ (by omega)]; exact a4, by rw [gF_w, if_neg (by omega), e _ (by omega)]; exact a5⟩, ?_, ?_, ?_, ?_⟩
  · intro b h1 h2
    rw [e _ (by omega)]; exact ah b h1 h2
  · intro j h1 h2
    rw [e 0 (by omega)] at h2
    have h3 := ac j h1 h2
    unfold hRc at h3 ⊢
    rw [e (14 + j) (by omega), e (26 + j) (by omega), bg_u (by omega)]; exact h3
  · intro j h1 h2
    rw [e 1 (by omega)] at h2
    have hj : j < 10 := by omega
    obtain ⟨⟨l, l1, l2, l3, l4⟩, s2, s3, s4, s5, s6, s7, s8⟩ := as_ j h1 h2
    unfold hRs
    refine ⟨⟨l, l1, l2, by rw [e _ (by omega)]; exact l3, by rw [e _ (by omega)]; exact l4⟩, ?_, ?_, ?_, ?_, ?_, ?_, ?_⟩
    · rw [e _ (by omega)]; exact s2
    · rw [gF_w, if_neg (by omega)]; rw [e _ (by omega)]; exact s3
    · rw [gF_w, if_neg (by omega)]; rw [e _ (by omega)]; exact s4
    · rw [gF_w, if_neg (by omega)]; rw [e _ (by omega)]; exact s5
    · rw [gF_w, if_neg (by omega)]; rw [e _ (by omega)]; exact s6
    · rw [gF_w, if_neg (by omega)]; rw [e _ (by omega)]; exact s7
    · rw [gF_w, if_neg (by omega)]; rw [e _ (by omega)]; exact s8
  · intro j h1 h2
    rw [e 2 (by omega)] at h2
    have hj : j < 8 := by omega
    obtain ⟨l0, l1, l2, l3⟩ := al j h1 h2
    unfold hRl
    refine ⟨?_, ?_, ?_, ?_⟩
    · rw [gF_w, if_neg (by omega)]; rw [e _ (by omega)]; exact l0
    · rw [gF_w, if_neg (by omega)]; rw [e _ (by omega)]; exact l1
    · rw [gF_w, if_neg (by omega)]; rw [e _ (by omega), e _ (by omega)]; exact l2
    · rw [e _ (by omega)]; exact l3
theorem hR_thread (b0 : σ 0 ≤ 12) (b1 : σ 1 ≤ 10) (b2 : σ 2 ≤ 8) (h : hR G σ) : hR (wgF G 0 3 (hI v)) (hu σ (3) v) := by
  obtain ⟨⟨a1, a2, a3, a4, a5⟩, ah, ac, as_, al⟩ := h
  have e : ∀ w : Int, w ≠ 3 → hu σ (3) v w = σ w := fun w hw => hu_ne hw
  refine ⟨⟨by rw [gF_w, if_neg (by omega), e _ (by omega)]; exact a1, by rw [gF_w, if_neg (by omega), e _ (by omega)]; exact a2, by rw [gF_w, if_pos ⟨rfl, rfl⟩, hu_same, hI_hw], by rw [gF_w, if_neg (by omega), e _ (by omega)]; exact a4, by rw [gF_w, if_neg (by omega), e _ (by omega)]; exact a5⟩, ?_, ?_, ?_, ?_⟩
  · intro b h1 h2
    rw [e _ (by omega)]; exact ah b h1 h2
  · intro j h1 h2
    rw [e 0 (by omega)] at h2
    have h3 := ac j h1 h2
    unfold hRc at h3 ⊢
    rw [e (14 + j) (by omega), e (26 + j) (by omega), bg_u (by omega)]; exact h3
  · intro j h1 h2
    rw [e 1 (by omega)] at h2
    have hj : j < 10 := by omega
    obtain ⟨⟨l, l1, l2, l3, l4⟩, s2, s3, s4, s5, s6, s7, s8⟩ := as_ j h1 h2
    unfold hRs
    refine ⟨⟨l, l1, l2, by rw [e _ (by omega)]; exact l3, by rw [e _ (by omega)]; exact l4⟩, ?_, ?_, ?_, ?_, ?_, ?_, ?_⟩
    · rw [e _ (by omega)]; exact s2
    · rw [gF_w, if_neg (by omega)]; rw [e _ (by omega)]; exact s3
    · rw [gF_w, if_neg (by omega)]; rw [e _ (by omega)]; exact s4
    · rw [gF_w, if_neg (by omega)]; rw [e _ (by omega)]; exact s5
    · rw [gF_w, if_neg (by omega)]; rw [e _ (by omega)]; exact s6
    · rw [gF_w, if_neg (by omega)]; rw [e _ (by omega)]; exact s7
    · rw [gF_w, if_neg (by omega)]; rw [e _ (by omega)]; exact s8
  · intro j h1 h2
    rw [e 2 (by omega)] at h2
    have hj : j < 8 := by omega
    obtain ⟨l0, l1, l2, l3⟩ := al j h1 h2
    unfold hRl
    refine ⟨?_, ?_, ?_, ?_⟩
    · rw [gF_w, if_neg (by omega)]; rw [e _ (by omega)]; exact l0
    · rw [gF_w, if_neg (by omega)]; rw [e _ (by omega)]; exact l1
    · rw [gF_w, if_neg (by omega)]; rw [e _ (by omega), e _ (by omega)]; exact l2
    · rw [e _ (by omega)]; exact l3
theorem hR_mer (b0 : σ 0 ≤ 12) (b1 : σ 1 ≤ 10) (b2 : σ 2 ≤ 8) (k1 : 0 ≤ k) (k2 : k < 10) (h : hR G σ) : hR (wgF G (7 + k.toNat) 3 (hI v)) (hu σ (38 + 9 * k + 4) v) := by
  obtain ⟨⟨a1, a2, a3, a4, a5⟩, ah, ac, as_, al⟩ := h
  have e : ∀ w : Int, w ≠ 38 + 9 * k + 4 → hu σ (38 + 9 * k + 4) v w = σ w := fun w hw => hu_ne hw
  refine ⟨⟨by rw [gF_w, if_neg (by omega), e _ (by omega)]; exact a1, by rw [gF_w, if_neg (by omega), e _ (by omega)]; exact a2, by rw [gF_w, if_neg (by omega), e _ (by omega)]; exact a3, by rw [gF_w, if_neg (by omega), e _ (by omega)]; exact a4, by rw [gF_w, if_neg (by omega), e _ (by omega)]; exact a5⟩, ?_, ?_, ?_, ?_⟩
  · intro b h1 h2
    rw [e _ (by omega)]; exact ah b h1 h2
  · intro j h1 h2
    rw [e 0 (by omega)] at h2
    have h3 := ac j h1 h2
    unfold hRc at h3 ⊢
    rw [e (14 + j) (by omega), e (26 + j) (by omega), bg_u (by omega)]; exact h3
  · intro j h1 h2
    rw [e 1 (by omega)] at h2
    have hj : j < 10 := by omega
    obtain ⟨⟨l, l1, l2, l3, l4⟩, s2, s3, s4, s5, s6, s7, s8⟩ := as_ j h1 h2
    unfold hRs
    refine ⟨⟨l, l1, l2, by rw [e _ (by omega)]; exact l3, by rw [e _ (by omega)]; exact l4⟩, ?_, ?_, ?_, ?_, ?_, ?_, ?_⟩
    · rw [e _ (by omega)]; exact s2
    · rw [gF_w, if_neg (by omega)]; rw [e _ (by omega)]; exact s3
    · by_cases hb : j = k
      · subst hb; rw [gF_w, if_pos ⟨rfl, rfl⟩, hu_same, hI_hw]
      · rw [gF_w, if_neg (by omega), e _ (by omega)]; exact s4
    · rw [gF_w, if_neg (by omega)]; rw [e _ (by omega)]; exact s5
    · rw [gF_w, if_neg (by omega)]; rw [e _ (by omega)]; exact s6
    · rw [gF_w, if_neg (by omega)]; rw [e _ (by omega)]; exact s7
    · rw [gF_w, if_neg (by omega)]; rw [e _ (by omega)]; exact s8
  · intro j h1 h2
    rw [e 2 (by omega)] at h2
    have hj : j < 8 := by omega
    obtain ⟨l0, l1, l2, l3⟩ := al j h1 h2
    unfold hRl
    refine ⟨?_, ?_, ?_, ?_⟩
    · rw [gF_w, if_neg (by omega)]; rw [e _ (by omega)]; exact l0
    · rw [gF_w, if_neg (by omega)]; rw [e _ (by omega)]; exact l1
    · rw [gF_w, if_neg (by omega)]; rw [e _ (by omega), e _ (by omega)]; exact l2
    · rw [e _ (by omega)]; exact l3
theorem hR_diary (b0 : σ 0 ≤ 12) (b1 : σ 1 ≤ 10) (b2 : σ 2 ≤ 8) (k1 : 0 ≤ k) (k2 : k < 10) (h : hR G σ) : hR (wgF G (7 + k.toNat) 4 (hI v)) (hu σ (38 + 9 * k + 5) v) := by
  obtain ⟨⟨a1, a2, a3, a4, a5⟩, ah, ac, as_, al⟩ := h
  have e : ∀ w : Int, w ≠ 38 + 9 * k + 5 → hu σ (38 + 9 * k + 5) v w = σ w := fun w hw => hu_ne hw
  refine ⟨⟨by rw [gF_w, if_neg (by omega), e _ (by omega)]; exact a1, by rw [gF_w, if_neg (by omega), e _ (by omega)]; exact a2, by rw [gF_w, if_neg (by omega), e _ (by omega)]; exact a3, by rw [gF_w, if_neg (by omega), e _ (by omega)]; exact a4, by rw [gF_w, if_neg (by omega), e _ (by omega)]; exact a5⟩, ?_, ?_, ?_, ?_⟩
  · intro b h1 h2
    rw [e _ (by omega)]; exact ah b h1 h2
  · intro j h1 h2
    rw [e 0 (by omega)] at h2
    have h3 := ac j h1 h2
    unfold hRc at h3 ⊢
    rw [e (14 + j) (by omega), e (26 + j) (by omega), bg_u (by omega)]; exact h3
  · intro j h1 h2
    rw [e 1 (by omega)] at h2
    have hj : j < 10 := by omega
    obtain ⟨⟨l, l1, l2, l3, l4⟩, s2, s3, s4, s5, s6, s7, s8⟩ := as_ j h1 h2
    unfold hRs
    refine ⟨⟨l, l1, l2, by rw [e _ (by omega)]; exact l3, by rw [e _ (by omega)]; exact l4⟩, ?_, ?_, ?_, ?_, ?_, ?_, ?_⟩
    · rw [e _ (by omega)]; exact s2
    · rw [gF_w, if_neg (by omega)]; rw [e _ (by omega)]; exact s3
    · rw [gF_w, if_neg (by omega)]; rw [e _ (by omega)]; exact s4
    · by_cases hb : j = k
      · subst hb; rw [gF_w, if_pos ⟨rfl, rfl⟩, hu_same, hI_hw]
      · rw [gF_w, if_neg (by omega), e _ (by omega)]; exact s5
    · rw [gF_w, if_neg (by omega)]; rw [e _ (by omega)]; exact s6
    · rw [gF_w, if_neg (by omega)]; rw [e _ (by omega)]; exact s7
    · rw [gF_w, if_neg (by omega)]; rw [e _ (by omega)]; exact s8
  · intro j h1 h2
    rw [e 2 (by omega)] at h2
    have hj : j < 8 := by omega
    obtain ⟨l0, l1, l2, l3⟩ := al j h1 h2
    unfold hRl
    refine ⟨?_, ?_, ?_, ?_⟩
    · rw [gF_w, if_neg (by omega)]; rw [e _ (by omega)]; exact l0
    · rw [gF_w, if_neg (by omega)]; rw [e _ (by omega)]; exact l1
    · rw [gF_w, if_neg (by omega)]; rw [e _ (by omega), e _ (by omega)]; exact l2
    · rw [e _ (by omega)]; exact l3
theorem hR_dir (b0 : σ 0 ≤ 12) (b1 : σ 1 ≤ 10) (b2 : σ 2 ≤ 8) (k1 : 0 ≤ k) (k2 : k < 10) (h : hR G σ) : hR (wgF G (7 + k.toNat) 5 (hI v)) (hu σ (38 + 9 * k + 6) v) := by
  obtain ⟨⟨a1, a2, a3, a4, a5⟩, ah, ac, as_, al⟩ := h
  have e : ∀ w : Int, w ≠ 38 + 9 * k + 6 → hu σ (38 + 9 * k + 6) v w = σ w := fun w hw => hu_ne hw
  refine ⟨⟨by rw [gF_w, if_neg (by omega), e _ (by omega)]; exact a1, by rw [gF_w, if_neg (by omega), e _ (by omega)]; exact a2, by rw [gF_w, if_neg (by omega), e _ (by omega)]; exact a3, by rw [gF_w, if_neg (by omega), e _ (by omega)]; exact a4, by rw [gF_w, if_neg (by omega), e _ (by omega)]; exact a5⟩, ?_, ?_, ?_, ?_⟩
  · intro b h1 h2
    rw [e _ (by omega)]; exact ah b h1 h2
  · intro j h1 h2
    rw [e 0 (by omega)] at h2
    have h3 := ac j h1 h2
    unfold hRc at h3 ⊢
    rw [e (14 + j) (by omega), e (26 + j) (by omega), bg_u (by omega)]; exact h3
  · intro j h1 h2
    rw [e 1 (by omega)] at h2
    have hj : j < 10 := by omega
    obtain ⟨⟨l, l1, l2, l3, l4⟩, s2, s3, s4, s5, s6, s7, s8⟩ := as_ j h1 h2
    unfold hRs
    refine ⟨⟨l, l1, l2, by rw [e _ (by omega)]; exact l3, by rw [e _ (by omega)]; exact l4⟩, ?_, ?_, ?_, ?_, ?_, ?_, ?_⟩
    · rw [e _ (by omega)]; exact s2
    · rw [gF_w, if_neg (by omega)]; rw [e _ (by omega)]; exact s3
    · rw [gF_w, if_neg (by omega)]; rw [e _ (by omega)]; exact s4
    · rw [gF_w, if_neg (by omega)]; rw [e _ (by omega)]; exact s5
    · by_cases hb : j = k
      · subst hb; rw [gF_w, if_pos ⟨rfl, rfl⟩, hu_same, hI_hw]
      · rw [gF_w, if_neg (by omega), e _ (by omega)]; exact s6
    · rw [gF_w, if_neg (by omega)]; rw [e _ (by omega)]; exact s7
    · rw [gF_w, if_neg (by omega)]; rw [e _ (by omega)]; exact s8
  · intro j h1 h2
    rw [e 2 (by omega)] at h2
    have hj : j < 8 := by omega
    obtain ⟨l0, l1, l2, l3⟩ := al j h1 h2
    unfold hRl
    refine ⟨?_, ?_, ?_, ?_⟩
    · rw [gF_w, if_neg (by omega)]; rw [e _ (by omega)]; exact l0
    · rw [gF_w, if_neg (by omega)]; rw [e _ (by omega)]; exact l1
    · rw [gF_w, if_neg (by omega)]; rw [e _ (by omega), e _ (by omega)]; exact l2
    · rw [e _ (by omega)]; exact l3
theorem hR_left (b0 : σ 0 ≤ 12) (b1 : σ 1 ≤ 10) (b2 : σ 2 ≤ 8) (k1 : 0 ≤ k) (k2 : k < 10) (h : hR G σ) : hR (wgF G (7 + k.toNat) 6 (hI v)) (hu σ (38 + 9 * k + 7) v) := by
  obtain ⟨⟨a1, a2, a3, a4, a5⟩, ah, ac, as_, al⟩ := h
  have e : ∀ w : Int, w ≠ 38 + 9 * k + 7 → hu σ (38 + 9 * k + 7) v w = σ w := fun w hw => hu_ne hw
  refine ⟨⟨by rw [gF_w, if_neg (by omega), e _ (by omega)]; exact a1, by rw [gF_w, if_neg (by omega), e _ (by omega)]; exact a2, by rw [gF_w, if_neg (by omega), e _ (by omega)]; exact a3, by rw [gF_w, if_neg (by omega), e _ (by omega)]; exact a4, by rw [gF_w, if_neg (by omega), e _ (by omega)]; exact a5⟩, ?_, ?_, ?_, ?_⟩
  · intro b h1 h2
    rw [e _ (by omega)]; exact ah b h1 h2
  · intro j h1 h2
    rw [e 0 (by omega)] at h2
    have h3 := ac j h1 h2
    unfold hRc at h3 ⊢
    rw [e (14 + j) (by omega), e (26 + j) (by omega), bg_u (by omega)]; exact h3
  · intro j h1 h2
    rw [e 1 (by omega)] at h2
    have hj : j < 10 := by omega
    obtain ⟨⟨l, l1, l2, l3, l4⟩, s2, s3, s4, s5, s6, s7, s8⟩ := as_ j h1 h2
    unfold hRs
    refine ⟨⟨l, l1, l2, by rw [e _ (by omega)]; exact l3, by rw [e _ (by omega)]; exact l4⟩, ?_, ?_, ?_, ?_, ?_, ?_, ?_⟩
    · rw [e _ (by omega)]; exact s2
    · rw [gF_w, if_neg (by omega)]; rw [e _ (by omega)]; exact s3
    · rw [gF_w, if_neg (by omega)]; rw [e _ (by omega)]; exact s4
    · rw [gF_w, if_neg (by omega)]; rw [e _ (by omega)]; exact s5
    · rw [gF_w, if_neg (by omega)]; rw [e _ (by omega)]; exact s6
    · by_cases hb : j = k
      · subst hb; rw [gF_w, if_pos ⟨rfl, rfl⟩, hu_same, hI_hw]
      · rw [gF_w, if_neg (by omega), e _ (by omega)]; exact s7
    · rw [gF_w, if_neg (by omega)]; rw [e _ (by omega)]; exact s8
  · intro j h1 h2
    rw [e 2 (by omega)] at h2
    have hj : j < 8 := by omega
    obtain ⟨l0, l1, l2, l3⟩ := al j h1 h2
    unfold hRl
    refine ⟨?_, ?_, ?_, ?_⟩
    · rw [gF_w, if_neg (by omega)]; rw [e _ (by omega)]; exact l0
    · rw [gF_w, if_neg (by omega)]; rw [e _ (by omega)]; exact l1
    · rw [gF_w, if_neg (by omega)]; rw [e _ (by omega), e _ (by omega)]; exact l2
    · rw [e _ (by omega)]; exact l3
theorem hR_cross (b0 : σ 0 ≤ 12) (b1 : σ 1 ≤ 10) (b2 : σ 2 ≤ 8) (k1 : 0 ≤ k) (k2 : k < 10) (h : hR G σ) : hR (wgF G (7 + k.toNat) 7 (hI v)) (hu σ (38 + 9 * k + 8) v) := by
  obtain ⟨⟨a1, a2, a3, a4, a5⟩, ah, ac, as_, al⟩ := h
  have e : ∀ w : Int, w ≠ 38 + 9 * k + 8 → hu σ (38 + 9 * k + 8) v w = σ w := fun w hw => hu_ne hw
  refine ⟨⟨by rw [gF_w, if_neg (by omega), e _ (by omega)]; exact a1, by rw [gF_w, if_neg (by omega), e _ (by omega)]; exact a2, by rw [gF_w, if_neg (by omega), e _ (by omega)]; exact a3, by rw [gF_w, if_neg (by omega), e _ (by omega)]; exact a4, by rw [gF_w, if_neg (by omega), e _ (by omega)]; exact a5⟩, ?_, ?_, ?_, ?_⟩
  · intro b h1 h2
    rw [e _ (by omega)]; exact ah b h1 h2
  · intro j h1 h2
    rw [e 0 (by omega)] at h2
    have h3 := ac j h1 h2
    unfold hRc at h3 ⊢
    rw [e (14 + j) (by omega), e (26 + j) (by omega), bg_u (by omega)]; exact h3
  · intro j h1 h2
    rw [e 1 (by omega)] at h2
    have hj : j < 10 := by omega
    obtain ⟨⟨l, l1, l2, l3, l4⟩, s2, s3, s4, s5, s6, s7, s8⟩ := as_ j h1 h2
    unfold hRs
    refine ⟨⟨l, l1, l2, by rw [e _ (by omega)]; exact l3, by rw [e _ (by omega)]; exact l4⟩, ?_, ?_, ?_, ?_, ?_, ?_, ?_⟩
    · rw [e _ (by omega)]; exact s2
    · rw [gF_w, if_neg (by omega)]; rw [e _ (by omega)]; exact s3
    · rw [gF_w, if_neg (by omega)]; rw [e _ (by omega)]; exact s4
    · rw [gF_w, if_neg (by omega)]; rw [e _ (by omega)]; exact s5
    · rw [gF_w, if_neg (by omega)]; rw [e _ (by omega)]; exact s6
    · rw [gF_w, if_neg (by omega)]; rw [e _ (by omega)]; exact s7
    · by_cases hb : j = k
      · subst hb; rw [gF_w, if_pos ⟨rfl, rfl⟩, hu_same, hI_hw]
      · rw [gF_w, if_neg (by omega), e _ (by omega)]; exact s8
  · intro j h1 h2
    rw [e 2 (by omega)] at h2
    have hj : j < 8 := by omega
    obtain ⟨l0, l1, l2, l3⟩ := al j h1 h2
    unfold hRl
    refine ⟨?_, ?_, ?_, ?_⟩
    · rw [gF_w, if_neg (by omega)]; rw [e _ (by omega)]; exact l0
    · rw [gF_w, if_neg (by omega)]; rw [e _ (by omega)]; exact l1
    · rw [gF_w, if_neg (by omega)]; rw [e _ (by omega), e _ (by omega)]; exact l2
    · rw [e _ (by omega)]; exact l3
theorem hR_torn (b0 : σ 0 ≤ 12) (b1 : σ 1 ≤ 10) (b2 : σ 2 ≤ 8) (k1 : 0 ≤ k) (k2 : k < 8) (hv : v = 1) (h : hR G σ) : hR (wgB G (18 + k.toNat) true) (hu σ (128 + 4 * k + 3) v) := by
  obtain ⟨⟨a1, a2, a3, a4, a5⟩, ah, ac, as_, al⟩ := h
  have e : ∀ w : Int, w ≠ 128 + 4 * k + 3 → hu σ (128 + 4 * k + 3) v w = σ w := fun w hw => hu_ne hw
  refine ⟨⟨by rw [e _ (by omega)]; exact a1, by rw [e _ (by omega)]; exact a2, by rw [e _ (by omega)]; exact a3, by rw [e _ (by omega)]; exact a4, by rw [e _ (by omega)]; exact a5⟩, ?_, ?_, ?_, ?_⟩
  · intro b h1 h2
    rw [e _ (by omega)]; exact ah b h1 h2
  · intro j h1 h2
    rw [e 0 (by omega)] at h2
    have h3 := ac j h1 h2
    unfold hRc at h3 ⊢
    rw [e (14 + j) (by omega), e (26 + j) (by omega), bg_u (by omega)]; exact h3
  · intro j h1 h2
    rw [e 1 (by omega)] at h2
    have hj : j < 10 := by omega
    obtain ⟨⟨l, l1, l2, l3, l4⟩, s2, s3, s4, s5, s6, s7, s8⟩ := as_ j h1 h2
    unfold hRs
    refine ⟨⟨l, l1, l2, by rw [e _ (by omega)]; exact l3, by rw [e _ (by omega)]; exact l4⟩, ?_, ?_, ?_, ?_, ?_, ?_, ?_⟩
    · rw [gB_wB, if_neg (by omega)]; rw [e _ (by omega)]; exact s2
    · rw [e _ (by omega)]; exact s3
    · rw [e _ (by omega)]; exact s4
    · rw [e _ (by omega)]; exact s5
    · rw [e _ (by omega)]; exact s6
    · rw [e _ (by omega)]; exact s7
    · rw [e _ (by omega)]; exact s8
  · intro j h1 h2
    rw [e 2 (by omega)] at h2
    have hj : j < 8 := by omega
    obtain ⟨l0, l1, l2, l3⟩ := al j h1 h2
    unfold hRl
    refine ⟨?_, ?_, ?_, ?_⟩
    · rw [e _ (by omega)]; exact l0
    · rw [e _ (by omega)]; exact l1
    · rw [e _ (by omega), e _ (by omega)]; exact l2
    · by_cases hb : j = k
      · subst hb; rw [gB_wB, if_pos rfl, hu_same]; subst hv; rfl
      · rw [gB_wB, if_neg (by omega), e _ (by omega)]; exact l3
theorem hR_stitch (b0 : σ 0 ≤ 12) (b1 : σ 1 ≤ 10) (b2 : σ 2 ≤ 8) (k1 : 0 ≤ k) (k2 : k < 12) (h : hR G σ) : hR (wgA G 4 (upd (gA G 4) k.toNat (hI v))) (hu σ (26 + k) v) := by
  obtain ⟨⟨a1, a2, a3, a4, a5⟩, ah, ac, as_, al⟩ := h
  have e : ∀ w : Int, w ≠ 26 + k → hu σ (26 + k) v w = σ w := fun w hw => hu_ne hw
  refine ⟨⟨by rw [e _ (by omega)]; exact a1, by rw [e _ (by omega)]; exact a2, by rw [e _ (by omega)]; exact a3, by rw [e _ (by omega)]; exact a4, by rw [e _ (by omega)]; exact a5⟩, ?_, ?_, ?_, ?_⟩
  · intro b h1 h2
    rw [gA_wA, if_neg (by decide)]
    rw [e _ (by omega)]; exact ah b h1 h2
  · intro j h1 h2
    rw [e 0 (by omega)] at h2
    have h3 := ac j h1 h2
    unfold hRc at h3 ⊢
    rw [gA_wA, gA_wA, gA_wA, if_neg (by decide), if_neg (by decide), if_pos rfl, e (14 + j) (by omega), bg_u (by omega), upd_w]
    refine ⟨h3.1, h3.2.1, ?_⟩
    by_cases hb : j = k
    · subst hb; rw [if_pos rfl, hu_same, hI_hw]
    · rw [if_neg (by omega), e _ (by omega)]; exact h3.2.2
  · intro j h1 h2
    rw [e 1 (by omega)] at h2
    have hj : j < 10 := by omega
    obtain ⟨⟨l, l1, l2, l3, l4⟩, s2, s3, s4, s5, s6, s7, s8⟩ := as_ j h1 h2
    unfold hRs
    refine ⟨⟨l, l1, l2, by rw [e _ (by omega)]; exact l3, by rw [e _ (by omega)]; exact l4⟩, ?_, ?_, ?_, ?_, ?_, ?_, ?_⟩
    · rw [e _ (by omega)]; exact s2
    · rw [e _ (by omega)]; exact s3
    · rw [e _ (by omega)]; exact s4
    · rw [e _ (by omega)]; exact s5
    · rw [e _ (by omega)]; exact s6
    · rw [e _ (by omega)]; exact s7
    · rw [e _ (by omega)]; exact s8
  · intro j h1 h2
    rw [e 2 (by omega)] at h2
    have hj : j < 8 := by omega
    obtain ⟨l0, l1, l2, l3⟩ := al j h1 h2
    unfold hRl
    refine ⟨?_, ?_, ?_, ?_⟩
    · rw [e _ (by omega)]; exact l0
    · rw [e _ (by omega)]; exact l1
    · rw [e _ (by omega), e _ (by omega)]; exact l2
    · rw [e _ (by omega)]; exact l3
theorem hR_hem (b0 : σ 0 ≤ 12) (b1 : σ 1 ≤ 10) (b2 : σ 2 ≤ 8) (k1 : 0 ≤ k) (k2 : k < 9) (h : hR G σ) : hR (wgA G 5 (upd (gA G 5) k.toNat (hI v))) (hu σ (5 + k) v) := by
  obtain ⟨⟨a1, a2, a3, a4, a5⟩, ah, ac, as_, al⟩ := h
  have e : ∀ w : Int, w ≠ 5 + k → hu σ (5 + k) v w = σ w := fun w hw => hu_ne hw
  refine ⟨⟨by rw [e _ (by omega)]; exact a1, by rw [e _ (by omega)]; exact a2, by rw [e _ (by omega)]; exact a3, by rw [e _ (by omega)]; exact a4, by rw [e _ (by omega)]; exact a5⟩, ?_, ?_, ?_, ?_⟩
  · intro b h1 h2
    rw [gA_wA, if_pos rfl, upd_w]
    by_cases hb : b = k
    · subst hb; rw [if_pos rfl, hu_same, hI_hw]
    · rw [if_neg (by omega), e _ (by omega)]; exact ah b h1 h2
  · intro j h1 h2
    rw [e 0 (by omega)] at h2
    have h3 := ac j h1 h2
    unfold hRc at h3 ⊢
    rw [gA_wA, gA_wA, gA_wA, if_neg (by decide), if_neg (by decide), if_neg (by decide)]
    rw [e (14 + j) (by omega), e (26 + j) (by omega), bg_u (by omega)]; exact h3
  · intro j h1 h2
    rw [e 1 (by omega)] at h2
    have hj : j < 10 := by omega
    obtain ⟨⟨l, l1, l2, l3, l4⟩, s2, s3, s4, s5, s6, s7, s8⟩ := as_ j h1 h2
    unfold hRs
    refine ⟨⟨l, l1, l2, by rw [e _ (by omega)]; exact l3, by rw [e _ (by omega)]; exact l4⟩, ?_, ?_, ?_, ?_, ?_, ?_, ?_⟩
    · rw [e _ (by omega)]; exact s2
    · rw [e _ (by omega)]; exact s3
    · rw [e _ (by omega)]; exact s4
    · rw [e _ (by omega)]; exact s5
    · rw [e _ (by omega)]; exact s6
    · rw [e _ (by omega)]; exact s7
    · rw [e _ (by omega)]; exact s8
  · intro j h1 h2
    rw [e 2 (by omega)] at h2
    have hj : j < 8 := by omega
    obtain ⟨l0, l1, l2, l3⟩ := al j h1 h2
    unfold hRl
    refine ⟨?_, ?_, ?_, ?_⟩
    · rw [e _ (by omega)]; exact l0
    · rw [e _ (by omega)]; exact l1
    · rw [e _ (by omega), e _ (by omega)]; exact l2
    · rw [e _ (by omega)]; exact l3
theorem hV_clock (v1 : 0 ≤ v) (v2 : v ≤ B + 1) (v3 : B < 1000000000) (h : hV B σ) : hV (B + 1) (hu σ (4) v) := by
  obtain ⟨⟨a0, a1, a2, a4⟩, ah, aw, as_, al, ad, ar⟩ := h
  have e : ∀ w : Int, w ≠ 4 → hu σ (4) v w = σ w := fun w hw => hu_ne hw
  refine ⟨⟨by rw [e 0 (by omega)]; exact a0, by rw [e 1 (by omega)]; exact a1, by rw [e 2 (by omega)]; exact a2, by rw [hu_same, hw_id (by omega) (by omega)]; omega⟩, ?_, ?_, ?_, ?_, ?_, ?_⟩
  · intro b h1 h2
    have h3 := ah b h1 h2
    rw [e _ (by omega)]; exact h3
  · intro j h1 h2
    rw [e 0 (by omega)] at h2
    have h3 := aw j h1 h2
    rw [e (14 + j) (by omega), e (26 + j) (by omega), bg_u (by omega)]; exact h3
  · intro j h1 h2
    rw [e 1 (by omega)] at h2
    have h3 := as_ j h1 h2
    unfold hVs at h3 ⊢
    rw [e (38 + 9 * j + 2) (by omega), e (38 + 9 * j + 3) (by omega), e (38 + 9 * j + 4) (by omega), e (38 + 9 * j + 6) (by omega), e (38 + 9 * j + 7) (by omega)]; exact h3
  · intro j h1 h2
    rw [e 2 (by omega)] at h2
    have h3 := al j h1 h2
    unfold hVl at h3 ⊢
    rw [e (128 + 4 * j + 0) (by omega), e (128 + 4 * j + 1) (by omega), e (128 + 4 * j + 2) (by omega), e (128 + 4 * j + 3) (by omega)]; exact h3
  · intro i j h1 h2 h3
    rw [e 2 (by omega)] at h3
    have h4 := ad i j h1 h2 h3
    rw [e (128 + 4 * i + 0) (by omega), e (128 + 4 * j + 0) (by omega), e (128 + 4 * i + 1) (by omega), e (128 + 4 * j + 1) (by omega), e (128 + 4 * i + 2) (by omega), e (128 + 4 * j + 2) (by omega)]
    rw [e (128 + 4 * i + 3) (by omega), e (128 + 4 * j + 3) (by omega)]; exact h4
  · intro w
    unfold hu
    split
    · exact hw_r
    · exact ar w
theorem hV_mer (k1 : 0 ≤ k) (k2 : k < 10) (v1 : 0 ≤ v) (v2 : v < 360) (h : hV B σ) : hV B (hu σ (38 + 9 * k + 4) v) := by
  obtain ⟨⟨a0, a1, a2, a4⟩, ah, aw, as_, al, ad, ar⟩ := h
  have e : ∀ w : Int, w ≠ 38 + 9 * k + 4 → hu σ (38 + 9 * k + 4) v w = σ w := fun w hw => hu_ne hw
  refine ⟨⟨by rw [e 0 (by omega)]; exact a0, by rw [e 1 (by omega)]; exact a1, by rw [e 2 (by omega)]; exact a2, by rw [e 4 (by omega)]; exact a4⟩, ?_, ?_, ?_, ?_, ?_, ?_⟩
  · intro b h1 h2
    have h3 := ah b h1 h2
    rw [e _ (by omega)]; exact h3
  · intro j h1 h2
    rw [e 0 (by omega)] at h2
    have h3 := aw j h1 h2
    rw [e (14 + j) (by omega), e (26 + j) (by omega), bg_u (by omega)]; exact h3
  · intro j h1 h2
    rw [e 1 (by omega)] at h2
    have h3 := as_ j h1 h2
    unfold hVs at h3 ⊢
    rw [e (38 + 9 * j + 2) (by omega), e (38 + 9 * j + 3) (by omega), e (38 + 9 * j + 6) (by omega), e (38 + 9 * j + 7) (by omega)]
    by_cases hb : j = k
    · subst hb; rw [hu_same, hw_id (by omega) (by omega)]; omega
    · rw [e _ (by omega)]; exact h3
  · intro j h1 h2
    rw [e 2 (by omega)] at h2
    have h3 := al j h1 h2
    unfold hVl at h3 ⊢
    rw [e (128 + 4 * j + 0) (by omega), e (128 + 4 * j + 1) (by omega), e (128 + 4 * j + 2) (by omega), e (128 + 4 * j + 3) (by omega)]; exact h3
  · intro i j h1 h2 h3
    rw [e 2 (by omega)] at h3
    have h4 := ad i j h1 h2 h3
    rw [e (128 + 4 * i + 0) (by omega), e (128 + 4 * j + 0) (by omega), e (128 + 4 * i + 1) (by omega), e (128 + 4 * j + 1) (by omega), e (128 + 4 * i + 2) (by omega), e (128 + 4 * j + 2) (by omega)]
    rw [e (128 + 4 * i + 3) (by omega), e (128 + 4 * j + 3) (by omega)]; exact h4
  · intro w
    unfold hu
    split
    · exact hw_r
    · exact ar w
theorem hV_dir (k1 : 0 ≤ k) (k2 : k < 10) (v1 : v = 0 ∨ v = 1) (h : hV B σ) : hV B (hu σ (38 + 9 * k + 6) v) := by
  obtain ⟨⟨a0, a1, a2, a4⟩, ah, aw, as_, al, ad, ar⟩ := h
  have e : ∀ w : Int, w ≠ 38 + 9 * k + 6 → hu σ (38 + 9 * k + 6) v w = σ w := fun w hw => hu_ne hw
  refine ⟨⟨by rw [e 0 (by omega)]; exact a0, by rw [e 1 (by omega)]; exact a1, by rw [e 2 (by omega)]; exact a2, by rw [e 4 (by omega)]; exact a4⟩, ?_, ?_, ?_, ?_, ?_, ?_⟩
  · intro b h1 h2
    have h3 := ah b h1 h2
    rw [e _ (by omega)]; exact h3
  · intro j h1 h2
    rw [e 0 (by omega)] at h2
    have h3 := aw j h1 h2
    rw [e (14 + j) (by omega), e (26 + j) (by omega), bg_u (by omega)]; exact h3
  · intro j h1 h2
    rw [e 1 (by omega)] at h2
    have h3 := as_ j h1 h2
    unfold hVs at h3 ⊢
    rw [e (38 + 9 * j + 2) (by omega), e (38 + 9 * j + 3) (by omega), e (38 + 9 * j + 4) (by omega), e (38 + 9 * j + 7) (by omega)]
    by_cases hb : j = k
    · subst hb; rw [hu_same, hw_id (by omega) (by omega)]; omega
    · rw [e _ (by omega)]; exact h3
  · intro j h1 h2
    rw [e 2 (by omega)] at h2
    have h3 := al j h1 h2
    unfold hVl at h3 ⊢
    rw [e (128 + 4 * j + 0) (by omega), e (128 + 4 * j + 1) (by omega), e (128 + 4 * j + 2) (by omega), e (128 + 4 * j + 3) (by omega)]; exact h3
  · intro i j h1 h2 h3
    rw [e 2 (by omega)] at h3
    have h4 := ad i j h1 h2 h3
    rw [e (128 + 4 * i + 0) (by omega), e (128 + 4 * j + 0) (by omega), e (128 + 4 * i + 1) (by omega), e (128 + 4 * j + 1) (by omega), e (128 + 4 * i + 2) (by omega), e (128 + 4 * j + 2) (by omega)]
    rw [e (128 + 4 * i + 3) (by omega), e (128 + 4 * j + 3) (by omega)]; exact h4
  · intro w
    unfold hu
    split
    · exact hw_r
    · exact ar w
theorem hV_left (k1 : 0 ≤ k) (k2 : k < 10) (v1 : 0 ≤ v) (v2 : v < 360) (v3 : σ (38 + 9 * k + 2) = 1 ∨ v = 0) (h : hV B σ) : hV B (hu σ (38 + 9 * k + 7) v) := by
  obtain ⟨⟨a0, a1, a2, a4⟩, ah, aw, as_, al, ad, ar⟩ := h
  have e : ∀ w : Int, w ≠ 38 + 9 * k + 7 → hu σ (38 + 9 * k + 7) v w = σ w := fun w hw => hu_ne hw
  refine ⟨⟨by rw [e 0 (by omega)]; exact a0, by rw [e 1 (by omega)]; exact a1, by rw [e 2 (by omega)]; exact a2, by rw [e 4 (by omega)]; exact a4⟩, ?_, ?_, ?_, ?_, ?_, ?_⟩
  · intro b h1 h2
    have h3 := ah b h1 h2
    rw [e _ (by omega)]; exact h3
  · intro j h1 h2
    rw [e 0 (by omega)] at h2
    have h3 := aw j h1 h2
    rw [e (14 + j) (by omega), e (26 + j) (by omega), bg_u (by omega)]; exact h3
  · intro j h1 h2
    rw [e 1 (by omega)] at h2
    have h3 := as_ j h1 h2
    unfold hVs at h3 ⊢
    rw [e (38 + 9 * j + 2) (by omega), e (38 + 9 * j + 3) (by omega), e (38 + 9 * j + 4) (by omega), e (38 + 9 * j + 6) (by omega)]
    by_cases hb : j = k
    · subst hb; rw [hu_same, hw_id (by omega) (by omega)]; omega
    · rw [e _ (by omega)]; exact h3
  · intro j h1 h2
    rw [e 2 (by omega)] at h2
    have h3 := al j h1 h2
    unfold hVl at h3 ⊢
    rw [e (128 + 4 * j + 0) (by omega), e (128 + 4 * j + 1) (by omega), e (128 + 4 * j + 2) (by omega), e (128 + 4 * j + 3) (by omega)]; exact h3
  · intro i j h1 h2 h3
    rw [e 2 (by omega)] at h3
    have h4 := ad i j h1 h2 h3
    rw [e (128 + 4 * i + 0) (by omega), e (128 + 4 * j + 0) (by omega), e (128 + 4 * i + 1) (by omega), e (128 + 4 * j + 1) (by omega), e (128 + 4 * i + 2) (by omega), e (128 + 4 * j + 2) (by omega)]
    rw [e (128 + 4 * i + 3) (by omega), e (128 + 4 * j + 3) (by omega)]; exact h4
  · intro w
    unfold hu
    split
    · exact hw_r
    · exact ar w
theorem hV_torn (k1 : 0 ≤ k) (k2 : k < 8) (v1 : v = 1) (h : hV B σ) : hV B (hu σ (128 + 4 * k + 3) v) := by
  obtain ⟨⟨a0, a1, a2, a4⟩, ah, aw, as_, al, ad, ar⟩ := h
  have e : ∀ w : Int, w ≠ 128 + 4 * k + 3 → hu σ (128 + 4 * k + 3) v w = σ w := fun w hw => hu_ne hw
  refine ⟨⟨by rw [e 0 (by omega)]; exact a0, by rw [e 1 (by omega)]; exact a1, by rw [e 2 (by omega)]; exact a2, by rw [e 4 (by omega)]; exact a4⟩, ?_, ?_, ?_, ?_, ?_, ?_⟩
  · intro b h1 h2
    have h3 := ah b h1 h2
    rw [e _ (by omega)]; exact h3
  · intro j h1 h2
    rw [e 0 (by omega)] at h2
    have h3 := aw j h1 h2
    rw [e (14 + j) (by omega), e (26 + j) (by omega), bg_u (by omega)]; exact h3
  · intro j h1 h2
    rw [e 1 (by omega)] at h2
    have h3 := as_ j h1 h2
    unfold hVs at h3 ⊢
    rw [e (38 + 9 * j + 2) (by omega), e (38 + 9 * j + 3) (by omega), e (38 + 9 * j + 4) (by omega), e (38 + 9 * j + 6) (by omega), e (38 + 9 * j + 7) (by omega)]; exact h3
  · intro j h1 h2
    rw [e 2 (by omega)] at h2
    have h3 := al j h1 h2
    unfold hVl at h3 ⊢
    rw [e (128 + 4 * j + 0) (by omega), e (128 + 4 * j + 1) (by omega), e (128 + 4 * j + 2) (by omega)]
    by_cases hb : j = k
    · subst hb; rw [hu_same, hw_id (by omega) (by omega)]; omega
    · rw [e _ (by omega)]; exact h3
  · intro i j h1 h2 h3
    rw [e 2 (by omega)] at h3
    have h4 := ad i j h1 h2 h3
    rw [e (128 + 4 * i + 0) (by omega), e (128 + 4 * j + 0) (by omega), e (128 + 4 * i + 1) (by omega), e (128 + 4 * j + 1) (by omega), e (128 + 4 * i + 2) (by omega), e (128 + 4 * j + 2) (by omega)]
    intro t1 t2
    have q : ∀ y : Int, hu σ (128 + 4 * k + 3) v (128 + 4 * y + 3) = 0 → σ (128 + 4 * y + 3) = 0 := by
      intro y hy
      by_cases hb : y = k
      · subst hb; rw [hu_same, hw_id (by omega) (by omega)] at hy; omega
      · rw [e _ (by omega)] at hy; exact hy
    exact h4 (q _ t1) (q _ t2)
  · intro w
    unfold hu
    split
    · exact hw_r
    · exact ar w
theorem hV_stitch (k1 : 0 ≤ k) (k2 : k < 12) (v1 : 0 ≤ v) (v2 : v ≤ 99) (h : hV B σ) : hV B (hu σ (26 + k) v) := by
  obtain ⟨⟨a0, a1, a2, a4⟩, ah, aw, as_, al, ad, ar⟩ := h
  have e : ∀ w : Int, w ≠ 26 + k → hu σ (26 + k) v w = σ w := fun w hw => hu_ne hw
  refine ⟨⟨by rw [e 0 (by omega)]; exact a0, by rw [e 1 (by omega)]; exact a1, by rw [e 2 (by omega)]; exact a2, by rw [e 4 (by omega)]; exact a4⟩, ?_, ?_, ?_, ?_, ?_, ?_⟩
  · intro b h1 h2
    have h3 := ah b h1 h2
    rw [e _ (by omega)]; exact h3
  · intro j h1 h2
    rw [e 0 (by omega)] at h2
    have h3 := aw j h1 h2
    rw [e (14 + j) (by omega), bg_u (by omega)]
    by_cases hb : j = k
    · subst hb; rw [hu_same, hw_id (by omega) (by omega)]; omega
    · rw [e _ (by omega)]; exact h3
  · intro j h1 h2
    rw [e 1 (by omega)] at h2
    have h3 := as_ j h1 h2
    unfold hVs at h3 ⊢
    rw [e (38 + 9 * j + 2) (by omega), e (38 + 9 * j + 3) (by omega), e (38 + 9 * j + 4) (by omega), e (38 + 9 * j + 6) (by omega), e (38 + 9 * j + 7) (by omega)]; exact h3
  · intro j h1 h2
    rw [e 2 (by omega)] at h2
    have h3 := al j h1 h2
    unfold hVl at h3 ⊢
    rw [e (128 + 4 * j + 0) (by omega), e (128 + 4 * j + 1) (by omega), e (128 + 4 * j + 2) (by omega), e (128 + 4 * j + 3) (by omega)]; exact h3
  · intro i j h1 h2 h3
    rw [e 2 (by omega)] at h3
    have h4 := ad i j h1 h2 h3
    rw [e (128 + 4 * i + 0) (by omega), e (128 + 4 * j + 0) (by omega), e (128 + 4 * i + 1) (by omega), e (128 + 4 * j + 1) (by omega), e (128 + 4 * i + 2) (by omega), e (128 + 4 * j + 2) (by omega)]
    rw [e (128 + 4 * i + 3) (by omega), e (128 + 4 * j + 3) (by omega)]; exact h4
  · intro w
    unfold hu
    split
    · exact hw_r
    · exact ar w
theorem hV_hem (k1 : 0 ≤ k) (k2 : k < 9) (v1 : 1 ≤ v) (v2 : v < 360) (h : hV B σ) : hV B (hu σ (5 + k) v) := by
  obtain ⟨⟨a0, a1, a2, a4⟩, ah, aw, as_, al, ad, ar⟩ := h
  have e : ∀ w : Int, w ≠ 5 + k → hu σ (5 + k) v w = σ w := fun w hw => hu_ne hw
  refine ⟨⟨by rw [e 0 (by omega)]; exact a0, by rw [e 1 (by omega)]; exact a1, by rw [e 2 (by omega)]; exact a2, by rw [e 4 (by omega)]; exact a4⟩, ?_, ?_, ?_, ?_, ?_, ?_⟩
  · intro b h1 h2
    have h3 := ah b h1 h2
    by_cases hb : b = k
    · subst hb; rw [hu_same, hw_id (by omega) (by omega)]; omega
    · rw [e _ (by omega)]; exact h3
  · intro j h1 h2
    rw [e 0 (by omega)] at h2
    have h3 := aw j h1 h2
    rw [e (14 + j) (by omega), e (26 + j) (by omega), bg_u (by omega)]; exact h3
  · intro j h1 h2
    rw [e 1 (by omega)] at h2
    have h3 := as_ j h1 h2
    unfold hVs at h3 ⊢
    rw [e (38 + 9 * j + 2) (by omega), e (38 + 9 * j + 3) (by omega), e (38 + 9 * j + 4) (by omega), e (38 + 9 * j + 6) (by omega), e (38 + 9 * j + 7) (by omega)]; exact h3
  · intro j h1 h2
    rw [e 2 (by omega)] at h2
    have h3 := al j h1 h2
    unfold hVl at h3 ⊢
    rw [e (128 + 4 * j + 0) (by omega), e (128 + 4 * j + 1) (by omega), e (128 + 4 * j + 2) (by omega), e (128 + 4 * j + 3) (by omega)]; exact h3
  · intro i j h1 h2 h3
    rw [e 2 (by omega)] at h3
    have h4 := ad i j h1 h2 h3
    rw [e (128 + 4 * i + 0) (by omega), e (128 + 4 * j + 0) (by omega), e (128 + 4 * i + 1) (by omega), e (128 + 4 * j + 1) (by omega), e (128 + 4 * i + 2) (by omega), e (128 + 4 * j + 2) (by omega)]
    rw [e (128 + 4 * i + 3) (by omega), e (128 + 4 * j + 3) (by omega)]; exact h4
  · intro w
    unfold hu
    split
    · exact hw_r
    · exact ar w
theorem hu_self (h : hV B σ) : hu σ z (σ z) = σ := by
  funext w
  unfold hu
  split
  · rename_i e; subst e; exact hw_id (h.2.2.2.2.2.2 w).1 (h.2.2.2.2.2.2 w).2
  · rfl
theorem hV_le {B1 : Int} (hb : B ≤ B1) (h : hV B σ) : hV B1 σ := ⟨⟨h.1.1, h.1.2.1, h.1.2.2.1, h.1.2.2.2.1, Int.le_trans h.1.2.2.2.2 hb⟩, h.2⟩
end HHC

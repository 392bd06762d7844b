/-! LETTERS COUNTED AND READ; NAMES COMPARED; THE WHOLE BUFFER AS A WORD -/
section HHK
variable {σ τ : Int → Int} {M M1 M2 : zM} {G Go : zG} {z v w k B b m d : Int} {l : List Int} {I : zI}
theorem p8_b (h : hWd l) : 0 ≤ p8 l ∧ p8 l < 8863084066665136128 := by
  have h1 := pk_r (b := 256) (d := 96) (by omega) (by omega) (by omega) l h.2.2
  obtain ⟨l1, l2, l3⟩ := h
  cases l with
  | nil => simp at l1
  | cons c t =>
    have h2 := pk_r (b := 256) (d := 96) (by omega) (by omega) (by omega) t (fun x hx => l3 x (List.mem_cons_of_mem _ hx))
    have hc := l3 c List.mem_cons_self
    have e : p8 (c :: t) = (96 + c) * 256 ^ t.length + pk 256 96 t := pk_cons
    have ht : t.length ≤ 7 := by simp at l2; omega
    have h3 : ∀ n : Nat, n ≤ 7 → (256 : Int) ^ n ≤ 72057594037927936 := by
      intro n hn
      have : n = 0 ∨ n = 1 ∨ n = 2 ∨ n = 3 ∨ n = 4 ∨ n = 5 ∨ n = 6 ∨ n = 7 := by omega
      rcases this with rfl | rfl | rfl | rfl | rfl | rfl | rfl | rfl <;> decide
    have h4 := h3 t.length ht
    have h5 : (0 : Int) < 256 ^ t.length := Int.pow_pos (by omega)
    have h6 : (96 + c) * 256 ^ t.length ≤ 122 * 256 ^ t.length := Int.mul_le_mul_of_nonneg_right (by omega) (by omega)
    have h7 : 0 ≤ (96 + c) * 256 ^ t.length := Int.mul_nonneg (by omega) (by omega)
    rw [e]
    omega
theorem p5_b (h : hWd l) : 0 ≤ p5 l ∧ p5 l < 1099511627776 := by
  have h1 := pk_r (b := 32) (d := 0) (by omega) (by omega) (by omega) l h.2.2
  have h3 : ∀ n : Nat, n ≤ 8 → (32 : Int) ^ n ≤ 1099511627776 := by
    intro n hn
    have : n = 0 ∨ n = 1 ∨ n = 2 ∨ n = 3 ∨ n = 4 ∨ n = 5 ∨ n = 6 ∨ n = 7 ∨ n = 8 := by omega
    rcases this with rfl | rfl | rfl | rfl | rfl | rfl | rfl | rfl | rfl <;> decide
  have h4 := h3 l.length h.2.1
  exact ⟨h1.1, Int.lt_of_lt_of_le h1.2 h4⟩
theorem pk_pos {b d : Int} (hb : 2 ≤ b) (hd : 0 ≤ d) (hd2 : d + 26 < b) (h : hWd l) {i : Nat} (hi : i < l.length) : 0 < pk b d l / b ^ i := by
  obtain ⟨l1, l2, l3⟩ := h
  cases l with
  | nil => simp at l1
  | cons c t =>
    have h1 := pk_lo hb hd hd2 l3
    have hp : 0 < b ^ i := Int.pow_pos (by omega)
    have h2 : b ^ i ≤ b ^ t.length := by
      have : i ≤ t.length := by simp at hi; omega
      obtain ⟨k, hk⟩ : ∃ k, t.length = i + k := ⟨t.length - i, by omega⟩
      rw [hk, Int.pow_add]
      have h3 : 0 < b ^ k := Int.pow_pos (by omega)
      have : b ^ i * 1 ≤ b ^ i * b ^ k := Int.mul_le_mul_of_nonneg_left (by omega) (by omega)
      omega
    have h3 : 1 ≤ pk b d (c :: t) / b ^ i := (Int.le_ediv_iff_mul_le hp).mpr (by omega)
    omega
theorem pk_zero {b d : Int} (hb : 2 ≤ b) (hd : 0 ≤ d) (hd2 : d + 26 < b) (h : hWd l) : pk b d l / b ^ l.length = 0 := by
  have h1 := pk_r hb hd hd2 l h.2.2
  exact Int.ediv_eq_zero_of_lt h1.1 h1.2
theorem u_sh (i : Nat) (hi : i < 8) : ((Int32.toInt64 (hI (8 * (i : Int)))).toUInt64 &&& Int64.toUInt64 63).toBitVec % 64 = BitVec.ofNat 64 (8 * i) := by
  have : i = 0 ∨ i = 1 ∨ i = 2 ∨ i = 3 ∨ i = 4 ∨ i = 5 ∨ i = 6 ∨ i = 7 := by omega
  rcases this with rfl | rfl | rfl | rfl | rfl | rfl | rfl | rfl <;> decide
theorem w8_at {x : Int} (x1 : 0 ≤ x) (x2 : x < 9223372036854775808) (i : Nat) (hi : i < 8) : (Int64.toUInt64 (hL x) >>> ((Int32.toInt64 (hI (8 * (i : Int)))).toUInt64 &&& Int64.toUInt64 63)).toInt64 = hL (x / 256 ^ i) := by
  obtain ⟨n, rfl⟩ := hL_int x1
  rw [shr_u (u_sh i hi) (by omega) (by omega), Nat.pow_mul]
  congr 1
/-- how many letters -/
theorem w_count (h : hWd l) : fW_letterCount (hL (p8 l)) = some (hI l.length) := by
  have hb := p8_b h
  have key : ∃ r, iter (fun s => fW_letterCount_b2 (hL (p8 l)) s) fu (hI 0) = some r ∧ r = hI l.length := by
    refine it_one l.length (fun i s => s = hI i) _ (by have := h.2.1; omega) rfl ?_
    rintro i s hi rfl
    have h8 := h.2.1
    unfold fW_letterCount_b2
    by_cases c : i < l.length
    · have hp := pk_pos (b := 256) (d := 96) (by omega) (by omega) (by omega) h c
      have hq : p8 l / 256 ^ i ≤ p8 l := Int.ediv_le_self _ hb.1
      have hp2 : 0 < p8 l / 256 ^ i := hp
      rw [show (8 : Int32) = hI 8 from rfl, ilt (by omega) (by omega) (by omega) (by omega), if_pos (by omega), hI_mul, w8_at hb.1 (by omega) i (by omega), show (0 : Int64) = hL 0 from rfl, iLeq (by omega) (by omega) (by omega) (by omega), if_neg (by omega), show (1 : Int32) = hI 1 from rfl, hI_add]
      exact Or.inl ⟨c, _, rfl, rfl⟩
    · have e : i = l.length := by omega
      by_cases c2 : (i : Int) < 8
      · have hz : p8 l / 256 ^ i = 0 := by rw [e]; exact pk_zero (b := 256) (d := 96) (by omega) (by omega) (by omega) h
        rw [show (8 : Int32) = hI 8 from rfl, ilt (by omega) (by omega) (by omega) (by omega), if_pos c2, hI_mul, w8_at hb.1 (by omega) i (by omega), show (0 : Int64) = hL 0 from rfl, hz, if_pos rfl, e]
        exact Or.inr ⟨_, rfl, rfl⟩
      · rw [show (8 : Int32) = hI 8 from rfl, ilt (by omega) (by omega) (by omega) (by omega), if_neg c2, e]
        exact Or.inr ⟨_, rfl, rfl⟩
  obtain ⟨r, hr, rfl⟩ := key
  exact hr
theorem w_count0 : fW_letterCount (hL 0) = some (hI 0) := it_exit (by decide)
theorem m_len (h : hWd l) : fM_lengthOf (hL (p5 l)) = some (hI l.length) := by
  have hb := p5_b h
  have key : ∃ r, iter (fun s => fM_lengthOf_b4 s.1 s.2) fu (hI 0, hL (p5 l)) = some r ∧ r = hI l.length := by
    refine it_one l.length (fun i s => s = (hI i, hL (p5 l / 32 ^ i))) _ (by have := h.2.1; omega) ?_ ?_
    · show (hI 0, hL (p5 l)) = (hI 0, hL (p5 l / 32 ^ 0))
      rw [Int.pow_zero, Int.ediv_one]
    rintro i s hi rfl
    have h8 := h.2.1
    have hq : p5 l / 32 ^ i ≤ p5 l := Int.ediv_le_self _ hb.1
    have hq0 : 0 ≤ p5 l / 32 ^ i := Int.ediv_nonneg hb.1 (Int.le_of_lt (Int.pow_pos (by omega)))
    unfold fM_lengthOf_b4
    dsimp only
    rw [show (0 : Int64) = hL 0 from rfl, iLlt (by omega) (by omega) (by omega) (by omega)]
    by_cases c : i < l.length
    · have hp : 0 < p5 l / 32 ^ i := pk_pos (b := 32) (d := 0) (by omega) (by omega) (by omega) h c
      rw [if_pos hp, w5_shr hq0 (by omega), Int.ediv_ediv_of_nonneg (Int.le_of_lt (Int.pow_pos (by omega))), ← Int.pow_succ, show (1 : Int32) = hI 1 from rfl, hI_add]
      exact Or.inl ⟨c, _, rfl, rfl⟩
    · have e : i = l.length := by omega
      have hz : p5 l / 32 ^ i = 0 := by rw [e]; exact pk_zero (b := 32) (d := 0) (by omega) (by omega) (by omega) h
      rw [if_neg (by omega), e]
      exact Or.inr ⟨_, rfl, rfl⟩
  obtain ⟨r, hr, rfl⟩ := key
  exact hr
theorem p8_pos (h : hWd l) : 0 < p8 l := by
  have := pk_pos (b := 256) (d := 96) (by omega) (by omega) (by omega) h (i := 0) (by have := h.1; omega)
  rw [Int.pow_zero, Int.ediv_one] at this
  exact this
theorem p5_pos (h : hWd l) : 0 < p5 l := by
  have := pk_pos (b := 32) (d := 0) (by omega) (by omega) (by omega) h (i := 0) (by have := h.1; omega)
  rw [Int.pow_zero, Int.ediv_one] at this
  exact this
/-- names compared -/
theorem nm_eq {l' : List Int} (h : hWd l) (h' : hWd l') : ((hL (p8 l) = hL (p8 l')) = (l = l')) ∧ ((hL (p5 l) = hL (p5 l')) = (l = l')) := by
  have a1 := p8_b h
  have a2 := p8_b h'
  have a3 := p5_b h
  have a4 := p5_b h'
  constructor
  · rw [hL_eq (by omega) (by omega) (by omega) (by omega)]
    exact propext ⟨fun e => pk_inj (b := 256) (d := 96) (by omega) (by omega) (by omega) h h' e, fun e => by rw [e]⟩
  · rw [hL_eq (by omega) (by omega) (by omega) (by omega)]
    exact propext ⟨fun e => pk_inj (b := 32) (d := 0) (by omega) (by omega) (by omega) h h' e, fun e => by rw [e]⟩
theorem m_name (hr : hR G (hm M)) (h : hV B (hm M)) (k1 : 0 ≤ k) (k2 : k < hm M 1) : ∃ l, hWd l ∧ gN G (7 + k.toNat) = hL (p8 l) ∧ fM_nameOf M (hI k) = some (hL (p5 l)) := by
  have h1 := h.1.2.1
  obtain ⟨⟨l, l1, l2, l3, l4⟩, -⟩ := hr.2.2.2.1 k k1 k2
  have hb := p5_b l1
  refine ⟨l, l1, l2, ?_⟩
  unfold fM_nameOf
  rw [show (0 : Int32) = hI 0 from rfl, show (1 : Int32) = hI 1 from rfl, m_of k1 (by omega) (by omega) (by omega), bnd_s, m_of k1 (by omega) (by omega) (by omega), bnd_s, l3, l4, w20_or (by omega) (by omega) (by omega) (by omega)]
  congr 2
  omega
/-- a name found: the place, or none -/
theorem t_named {l : List Int} (hl : hWd l) (hr : hR G (hm M)) (h : hV B (hm M)) : ∃ x : Int, fG_spotNamed G (hL (p8 l)) = some (hI x) ∧ fM_spotNamed M (hL (p5 l)) = some (hI x) ∧ -1 ≤ x ∧ x < hm M 1 := by
  have h1 := h.1.2.1
  have key : ∃ r1 r2, iter (fun s => fG_spotNamed_b2 G (hL (p8 l)) s) fu (hI 0) = some r1 ∧ iter (fun s => fM_spotNamed_b2 M (hL (p5 l)) s) fu (hI 0) = some r2 ∧ ∃ x : Int, r1 = hI x ∧ r2 = hI x ∧ -1 ≤ x ∧ x < hm M 1 := by
    refine it_two (hm M 1).toNat (fun i s1 s2 => s1 = hI i ∧ s2 = hI i) _ (by omega) ⟨rfl, rfl⟩ ?_
    rintro i s1 s2 hi ⟨rfl, rfl⟩
    unfold fG_spotNamed_b2 fM_spotNamed_b2
    by_cases c : (i : Int) < hm M 1
    · obtain ⟨l', n1, n2, n3⟩ := m_name hr h (k := i) (by omega) c
      obtain ⟨e1, e2⟩ := nm_eq n1 hl
      by_cases e : l' = l
      · simp (disch := omega) only [↓reduceIte, Int.reduceEq, Int.reduceLT, bnd_s, bnd2_s, bnd3_s, hI_lit, hL_lit, hI_add, hI_sub, hI_mul, hI_neg, hI_lt, hI_eq, if_true, if_false, eq_self_iff_true, true_and, and_true, false_and, and_false, decide_eq_true_eq, not_true, not_false_iff, Bool.false_eq_true, Bool.true_eq_false, r_spots hr, m_1, c, rix_hI, n2, n3, e]
        exact Or.inr ⟨_, _, rfl, rfl, i, rfl, rfl, by omega, c⟩
      · simp (disch := omega) only [↓reduceIte, Int.reduceEq, Int.reduceLT, bnd_s, bnd2_s, bnd3_s, hI_lit, hL_lit, hI_add, hI_sub, hI_mul, hI_neg, hI_lt, hI_eq, if_true, if_false, eq_self_iff_true, true_and, and_true, false_and, and_false, decide_eq_true_eq, not_true, not_false_iff, Bool.false_eq_true, Bool.true_eq_false, r_spots hr, m_1, c, rix_hI, n2, n3, e1, e2, e]
        exact Or.inl ⟨by omega, _, _, rfl, rfl, rfl, rfl⟩
    · simp (disch := omega) only [↓reduceIte, Int.reduceEq, Int.reduceLT, bnd_s, bnd2_s, bnd3_s, hI_lit, hL_lit, hI_add, hI_sub, hI_mul, hI_neg, hI_lt, hI_eq, if_true, if_false, eq_self_iff_true, true_and, and_true, false_and, and_false, decide_eq_true_eq, not_true, not_false_iff, Bool.false_eq_true, Bool.true_eq_false, r_spots hr, m_1, c]
      exact Or.inr ⟨_, _, rfl, rfl, -1, rfl, rfl, by omega, by omega⟩
  obtain ⟨r1, r2, q1, q2, x, rfl, rfl, x1, x2⟩ := key
  exact ⟨x, q1, q2, x1, x2⟩
/-- no spot bears no name -/
theorem g_named0 (hr : hR G σ) (h : hV B σ) : fG_spotNamed G (hL 0) = some (hI (-1)) := by
  have h1 := h.1.2.1
  have key : ∃ r1, iter (fun s => fG_spotNamed_b2 G (hL 0) s) fu (hI 0) = some r1 ∧ r1 = hI (-1) := by
    refine it_one (σ 1).toNat (fun i s1 => s1 = hI i) _ (by omega) rfl ?_
    rintro i s1 hi rfl
    unfold fG_spotNamed_b2
    by_cases c : (i : Int) < σ 1
    · obtain ⟨⟨l', n1, n2, -⟩, -⟩ := hr.2.2.2.1 i (by omega) c
      have hp := p8_pos n1
      have hb := p8_b n1
      have e : (hL (p8 l') = hL 0) = False := by
        rw [hL_eq (by omega) (by omega) (by omega) (by omega)]
        exact eq_false (by omega)
      simp (disch := omega) only [↓reduceIte, Int.reduceEq, Int.reduceLT, bnd_s, bnd2_s, bnd3_s, hI_lit, hL_lit, hI_add, hI_sub, hI_mul, hI_neg, hI_lt, hI_eq, if_true, if_false, eq_self_iff_true, true_and, and_true, false_and, and_false, decide_eq_true_eq, not_true, not_false_iff, Bool.false_eq_true, Bool.true_eq_false, r_spots hr, c, rix_hI, n2, e]
      exact Or.inl ⟨by omega, _, rfl, rfl⟩
    · simp (disch := omega) only [↓reduceIte, Int.reduceEq, Int.reduceLT, bnd_s, bnd2_s, bnd3_s, hI_lit, hL_lit, hI_add, hI_sub, hI_mul, hI_neg, hI_lt, hI_eq, if_true, if_false, eq_self_iff_true, true_and, and_true, false_and, and_false, decide_eq_true_eq, not_true, not_false_iff, Bool.false_eq_true, Bool.true_eq_false, r_spots hr, c]
      exact Or.inr ⟨_, rfl, rfl⟩
  obtain ⟨r, q, rfl⟩ := key
  exact q
theorem and255 (n : Nat) : hI (n : Int) &&& 255 = hI ((n % 256 : Nat) : Int) := by
  apply Int32.toBitVec_inj.1
  apply BitVec.eq_of_toNat_eq
  have e1 : ∀ m : Nat, (hI (m : Int)).toBitVec = BitVec.ofNat 32 m := fun m => BitVec.ofInt_natCast 32 m
  have e2 : (255 : Int32).toBitVec.toNat = 2 ^ 8 - 1 := by decide
  rw [Int32.toBitVec_and, BitVec.toNat_and, e1, e1, e2, Nat.and_two_pow_sub_one_eq_mod, BitVec.toNat_ofNat, BitVec.toNat_ofNat]
  omega
/-- a letter of a name -/
theorem t_letter (h : hWd l) (i1 : -2147483648 ≤ k) (i2 : k < 2147483648) : ∃ x : Int32, fW_letterAt (hL (p8 l)) (hI k) = some x ∧ fM_letterOf (hL (p5 l)) (hI k) = some x := by
  have hb := p8_b h
  have hb5 := p5_b h
  have h8 := h.2.1
  have h81 := h.1
  unfold fW_letterAt fM_letterOf
  rw [w_count h, m_len h, bnd_s, bnd_s, show (0 : Int32) = hI 0 from rfl, show (1 : Int32) = hI 1 from rfl, show (0 : Int64) = hL 0 from rfl, hI_sub, hI_long (show -2147483648 ≤ (l.length : Int) - 1 by omega) (by omega), isIn_e i1 i2 (by omega) (by omega) (by omega) (by omega)]
  by_cases c : 0 ≤ k ∧ k ≤ (l.length : Int) - 1
  · rw [decide_eq_true c, if_pos rfl, ilt i1 i2 (by omega) (by omega), if_neg (by omega), ilt i1 i2 (by omega) (by omega), if_pos (by omega)]
    obtain ⟨i, rfl⟩ : ∃ i : Nat, k = i := ⟨k.toNat, by omega⟩
    have hi : i < l.length := by omega
    have hc := h.2.2 _ (List.getElem_mem hi)
    have e8 : (8 * ((l.length : Int) - 1 - i)) = 8 * ((l.length - 1 - i : Nat) : Int) := by omega
    have q8 := pk_at (b := 256) (d := 96) (by omega) (by omega) (by omega) l i hi h.2.2
    have q5 := pk_at (b := 32) (d := 0) (by omega) (by omega) (by omega) l i hi h.2.2
    have hp : ∀ n : Nat, n ≤ 7 → ((5 * (n : Int) = 0 ∨ 5 * (n : Int) = 5 ∨ 5 * (n : Int) = 10 ∨ 5 * (n : Int) = 15 ∨ 5 * (n : Int) = 20 ∨ 5 * (n : Int) = 25 ∨ 5 * (n : Int) = 30 ∨ 5 * (n : Int) = 35)) := by omega
    have s5 : ∀ n : Nat, n ≤ 7 → (Int32.toInt64 (hI (5 * (n : Int))) &&& 63).toBitVec.smod 64 = BitVec.ofNat 64 (5 * n) := by
      intro n hn
      have : n = 0 ∨ n = 1 ∨ n = 2 ∨ n = 3 ∨ n = 4 ∨ n = 5 ∨ n = 6 ∨ n = 7 := by omega
      rcases this with rfl | rfl | rfl | rfl | rfl | rfl | rfl | rfl <;> decide
    have hq8 : 0 ≤ p8 l / 256 ^ (l.length - 1 - i) := Int.ediv_nonneg hb.1 (Int.le_of_lt (Int.pow_pos (by omega)))
    have a8 : Int64.toInt32 (hL (p8 l / 256 ^ (l.length - 1 - i))) &&& 255 = hI (96 + l[i]) := by
      obtain ⟨y, hy⟩ := hL_int hq8
      have e1 : Int64.toInt32 (hL (y : Int)) = hI (y : Int) := Int64.toInt32_ofInt
      rw [hy, e1, and255]
      have e4 : pk 256 96 l / 256 ^ (l.length - 1 - i) = (y : Int) := hy
      rw [e4] at q8
      congr 1
    have a5 : fM_letterIn (hL (p5 l)) (hI i) = some (hI (96 + l[i])) := by
      unfold fM_letterIn
      rw [m_len h, bnd_s, show (5 : Int32) = hI 5 from rfl, show (1 : Int32) = hI 1 from rfl, hI_sub, hI_sub, hI_mul, show 5 * ((l.length : Int) - 1 - (i : Int)) = 5 * ((l.length - 1 - i : Nat) : Int) by omega]
      obtain ⟨n, hn⟩ := hL_int hb5.1
      rw [hn, shr_s (s5 _ (by omega)) (by omega) (by omega)]
      have e31 : (31 : Int64) = hL ((2 ^ 5 - 1 : Nat) : Int) := by decide
      have hle : n / 2 ^ (5 * (l.length - 1 - i)) ≤ n := Nat.div_le_self _ _
      rw [e31, and_m (by omega) (by omega)]
      have e3 : Int64.toInt32 (hL ((n / 2 ^ (5 * (l.length - 1 - i)) % 2 ^ 5 : Nat) : Int)) = hI ((n / 2 ^ (5 * (l.length - 1 - i)) % 2 ^ 5 : Nat) : Int) := Int64.toInt32_ofInt
      rw [e3, show (96 : Int32) = hI 96 from rfl, hI_add]
      congr 2
      have e4 : pk 32 0 l = (n : Int) := hn
      rw [e4] at q5
      rw [Nat.pow_mul]
      have e6 : ((n / (2 ^ 5) ^ (l.length - 1 - i) % 2 ^ 5 : Nat) : Int) = (n : Int) / 32 ^ (l.length - 1 - i) % 32 := by
        simp [Int.natCast_ediv, Int.natCast_emod, Int.natCast_pow]
      rw [e6, q5]
      omega
    rw [show (8 : Int32) = hI 8 from rfl, hI_sub, hI_mul, e8, w8_at hb.1 (by omega) _ (by omega), a8, a5, bnd_s]
    exact ⟨_, rfl, rfl⟩
  · rw [decide_eq_false c, ilt i1 i2 (by omega) (by omega), ilt i1 i2 (by omega) (by omega)]
    refine ⟨-1, ?_, rfl⟩
    by_cases c1 : k < 0
    · rw [if_pos c1]; rfl
    · rw [if_neg c1, if_neg (by omega)]; rfl
/-- the bytes of both buffers -/
def sg (u : Int) : Int := if u < 128 then u else u - 256
def hBy (I : zI) (M : zM) (n : Int) : Prop := ∀ k : Int, 0 ≤ k → k < n → ∃ u : Int, 0 ≤ u ∧ u < 256 ∧ mA M 248 k.toNat = hI u ∧ iA I k.toNat = hI (sg u)
theorem let_I {u : Int} (h1 : 0 ≤ u) (h2 : u < 256) : fI_isLetter (hI (sg u)) = decide (97 ≤ u ∧ u ≤ 122) := by
  unfold fI_isLetter sg
  rw [show (97 : Int32) = hI 97 from rfl, show (122 : Int32) = hI 122 from rfl]
  by_cases c : u < 128
  · rw [if_pos c, ilt (by omega) (by omega) (by omega) (by omega), ilt (by omega) (by omega) (by omega) (by omega)]
    by_cases c1 : 97 ≤ u ∧ u ≤ 122
    · rw [decide_eq_true c1, if_neg (by omega), if_neg (by omega)]
    · rw [decide_eq_false c1]
      by_cases c2 : u < 97
      · rw [if_pos c2]
      · rw [if_neg c2, if_pos (by omega)]
  · rw [if_neg c, ilt (by omega) (by omega) (by omega) (by omega), if_pos (by omega), decide_eq_false (by omega)]
theorem let_M {u : Int} (h1 : -1 ≤ u) (h2 : u < 256) : fM_isLetter (hI u) = decide (97 ≤ u ∧ u ≤ 122) := by
  unfold fM_isLetter
  rw [show (97 : Int32) = hI 97 from rfl, show (122 : Int32) = hI 122 from rfl, ilt (by omega) (by omega) (by omega) (by omega), ilt (by omega) (by omega) (by omega) (by omega)]
  by_cases c1 : 97 ≤ u ∧ u ≤ 122
  · rw [decide_eq_true c1, if_neg (by omega), if_neg (by omega)]
  · rw [decide_eq_false c1]
    by_cases c2 : u < 97
    · rw [if_pos c2]
    · rw [if_neg c2, if_pos (by omega)]
theorem hWd_snoc {c : Int} (h1 : l.length < 8) (h2 : ∀ x ∈ l, 1 ≤ x ∧ x ≤ 26) (c1 : 1 ≤ c) (c2 : c ≤ 26) : hWd (l ++ [c]) := by
  refine ⟨by simp, by simp; omega, fun x hx => ?_⟩
  rw [List.mem_append] at hx
  rcases hx with hx | hx
  · exact h2 x hx
  · rw [List.mem_singleton] at hx; omega
theorem p8_b0 (h1 : l.length ≤ 7) (h2 : ∀ x ∈ l, 1 ≤ x ∧ x ≤ 26) : 0 ≤ p8 l ∧ p8 l < 36028797018963968 := by
  by_cases c : l = []
  · subst c; exact ⟨by decide, by decide⟩
  · have hw : hWd (l ++ [1]) := hWd_snoc (by omega) h2 (by omega) (by omega)
    have h := p8_b hw
    have e : p8 (l ++ [1]) = p8 l * 256 + (96 + 1) := pk_snoc
    have h0 := pk_r (b := 256) (d := 96) (by omega) (by omega) (by omega) l h2
    have h01 : 0 ≤ p8 l := h0.1
    omega
theorem p5_b0 (h1 : l.length ≤ 7) (h2 : ∀ x ∈ l, 1 ≤ x ∧ x ≤ 26) : 0 ≤ p5 l ∧ p5 l < 36028797018963968 := by
  have hw : hWd (l ++ [1]) := hWd_snoc (by omega) h2 (by omega) (by omega)
  have h := p5_b hw
  have e : p5 (l ++ [1]) = p5 l * 32 + (0 + 1) := pk_snoc
  have h0 := pk_r (b := 32) (d := 0) (by omega) (by omega) (by omega) l h2
  have h01 : 0 ≤ p5 l := h0.1
  omega
theorem t_word {n : Int} (hb : hBy I M n) (eI : iF I 1 = hI n) (eM : mF M 2 = hI n) (n1 : 0 ≤ n) (n2 : n ≤ 600) : (∃ l, hWd l ∧ fI_wholeWord I = some (hL (p8 l)) ∧ fM_bufferName M = some (hL (p5 l))) ∨ (fI_wholeWord I = some (hL 0) ∧ fM_bufferName M = some (hL 0)) := by
  unfold fI_wholeWord fM_bufferName
  rw [eI, eM, show (8 : Int32) = hI 8 from rfl, show (1 : Int64) = hL 1 from rfl, show (8 : Int64) = hL 8 from rfl, ilt (by omega) (by omega) (by omega) (by omega), isIn_e (by omega) (by omega) (by omega) (by omega) (by omega) (by omega)]
  by_cases c8 : 8 < n
  · rw [if_pos c8, decide_eq_false (by omega)]
    exact Or.inr ⟨rfl, rfl⟩
  · rw [if_neg c8]
    by_cases c0 : n = 0
    · subst c0
      rw [decide_eq_false (by omega)]
      refine Or.inr ⟨it_exit ?_, rfl⟩
      unfold fI_wholeWord_b15
      dsimp only
      rw [eI]
      rfl
    · rw [decide_eq_true (show 1 ≤ n ∧ n ≤ 8 by omega), if_pos rfl]
      have key : ∃ r1 r2, iter (fun s => fI_wholeWord_b15 I s.1 s.2) fu (hL 0, hI 0) = some r1 ∧ iter (fun s => fM_bufferName_b21 M s.1 s.2) fu (hL 0, hI 0) = some r2 ∧ ((∃ l, hWd l ∧ r1 = hL (p8 l) ∧ r2 = hL (p5 l)) ∨ (r1 = hL 0 ∧ r2 = hL 0)) := by
        refine it_two n.toNat (fun i s1 s2 => ∃ l : List Int, l.length = i ∧ (∀ x ∈ l, 1 ≤ x ∧ x ≤ 26) ∧ s1 = (hL (p8 l), hI i) ∧ s2 = (hL (p5 l), hI i)) _ (by omega) ⟨[], rfl, (fun x hx => absurd hx List.not_mem_nil), rfl, rfl⟩ ?_
        rintro i s1 s2 hi ⟨l, l1, l2, rfl, rfl⟩
        unfold fI_wholeWord_b15 fM_bufferName_b21
        dsimp only
        rw [eI, eM, ilt (by omega) (by omega) (by omega) (by omega), ilt (by omega) (by omega) (by omega) (by omega)]
        by_cases c : (i : Int) < n
        · obtain ⟨u, u1, u2, u3, u4⟩ := hb i (by omega) c
          rw [if_pos c, if_pos c, rd_hI (by omega) (by omega) (by omega), rd_hI (by omega) (by omega) (by omega), u3, u4, bnd_s, bnd_s, bnd_s, bnd_s, let_I u1 u2, let_M (by omega) u2]
          by_cases cl : 97 ≤ u ∧ u ≤ 122
          · have a8 := p8_b0 (l := l) (by omega) l2
            have a5 := p5_b0 (l := l) (by omega) l2
            rw [decide_eq_true cl, if_pos rfl, if_pos rfl, show (1 : Int32) = hI 1 from rfl, hI_add, show (97 : Int32) = hI 97 from rfl, hI_sub, hI_add]
            have hs : sg u = u := by unfold sg; rw [if_pos (by omega)]
            rw [hs, w8_or a8.1 a8.2 (by omega) (by omega), w5_or a5.1 a5.2 (by omega) (by omega)]
            have g8 : p8 (l ++ [u - 96]) = p8 l * 256 + u := by
              have : p8 (l ++ [u - 96]) = p8 l * 256 + (96 + (u - 96)) := pk_snoc
              omega
            have g5 : p5 (l ++ [u - 96]) = p5 l * 32 + (u - 97 + 1) := by
              have : p5 (l ++ [u - 96]) = p5 l * 32 + (0 + (u - 96)) := pk_snoc
              omega
            rw [← g8, ← g5]
            have hw := hWd_snoc (l := l) (c := u - 96) (by omega) l2 (by omega) (by omega)
            exact Or.inl ⟨by omega, _, _, rfl, rfl, l ++ [u - 96], by simp [l1], hw.2.2, rfl, rfl⟩
          · rw [decide_eq_false cl, if_neg (by decide), if_neg (by decide)]
            exact Or.inr ⟨_, _, rfl, rfl, Or.inr ⟨rfl, rfl⟩⟩
        · rw [if_neg c, if_neg c]
          exact Or.inr ⟨_, _, rfl, rfl, Or.inl ⟨l, ⟨by omega, by omega, l2⟩, rfl, rfl⟩⟩
      obtain ⟨r1, r2, q1, q2, q3⟩ := key
      rcases q3 with ⟨l, l1, e1, e2⟩ | ⟨e1, e2⟩
      · refine Or.inl ⟨l, l1, ?_, ?_⟩
        · rw [← e1]; exact q1
        · rw [← e2]; exact q2
      · refine Or.inr ⟨?_, ?_⟩
        · rw [← e1]; exact q1
        · rw [← e2]; exact q2
end HHK

/-! WORDS: packed five and eight bits a letter -/
section HHJ
theorem hL_bv (n : Nat) : (hL (n : Int)).toBitVec = BitVec.ofNat 64 n := BitVec.ofInt_natCast 64 n
theorem hL_bvn {n : Nat} (h : n < 18446744073709551616) : (hL (n : Int)).toBitVec.toNat = n := by
  rw [hL_bv, BitVec.toNat_ofNat, Nat.mod_eq_of_lt h]
theorem hL_ext {x y : Int64} (h : x.toBitVec.toNat = y.toBitVec.toNat) : x = y := Int64.toBitVec_inj.1 (BitVec.eq_of_toNat_eq h)
theorem shl_or {k : Nat} {am : Int64} (ham : am.toBitVec.smod 64 = BitVec.ofNat 64 k) (hk : k < 64) {x c : Nat} (hc : c < 2 ^ k) (hx : x * 2 ^ k + c < 9223372036854775808) : (hL (x : Int) <<< am) ||| hL (c : Int) = hL ((x * 2 ^ k + c : Nat) : Int) := by
  have h1 : 1 ≤ 2 ^ k := Nat.one_le_two_pow
  have h2 : x ≤ x * 2 ^ k := Nat.le_mul_of_pos_right x h1
  apply hL_ext
  rw [hL_bvn (by omega), Int64.toBitVec_or, Int64.toBitVec_shiftLeft, ham, BitVec.toNat_or, BitVec.shiftLeft_eq', BitVec.toNat_shiftLeft, hL_bvn (by omega), hL_bvn (by omega), BitVec.toNat_ofNat, Nat.mod_eq_of_lt (show k < 2 ^ 64 by omega), Nat.shiftLeft_eq, Nat.mod_eq_of_lt (show x * 2 ^ k < 2 ^ 64 by omega), ← Nat.shiftLeft_eq, ← Nat.shiftLeft_add_eq_or_of_lt hc]
theorem shr_s {k : Nat} {am : Int64} (ham : am.toBitVec.smod 64 = BitVec.ofNat 64 k) (hk : k < 64) {x : Nat} (hx : x < 9223372036854775808) : hL (x : Int) >>> am = hL ((x / 2 ^ k : Nat) : Int) := by
  have h2 : x / 2 ^ k ≤ x := Nat.div_le_self _ _
  apply hL_ext
  have hm : (hL (x : Int)).toBitVec.msb = false := by
    rw [BitVec.msb_eq_false_iff_two_mul_lt, hL_bvn (by omega)]
    omega
  rw [hL_bvn (by omega), Int64.toBitVec_shiftRight, ham, BitVec.sshiftRight_eq', BitVec.sshiftRight_eq_of_msb_false hm, BitVec.toNat_ushiftRight, hL_bvn (by omega), BitVec.toNat_ofNat, Nat.mod_eq_of_lt (show k < 2 ^ 64 by omega), Nat.shiftRight_eq_div_pow]
theorem shr_u {k : Nat} {am : UInt64} (ham : am.toBitVec % 64 = BitVec.ofNat 64 k) (hk : k < 64) {x : Nat} (hx : x < 9223372036854775808) : (Int64.toUInt64 (hL (x : Int)) >>> am).toInt64 = hL ((x / 2 ^ k : Nat) : Int) := by
  have h2 : x / 2 ^ k ≤ x := Nat.div_le_self _ _
  apply hL_ext
  have e : (Int64.toUInt64 (hL (x : Int)) >>> am).toInt64.toBitVec = (hL (x : Int)).toBitVec >>> (am.toBitVec % 64) := rfl
  rw [hL_bvn (by omega), e, ham, BitVec.ushiftRight_eq', BitVec.toNat_ushiftRight, hL_bvn (by omega), BitVec.toNat_ofNat, Nat.mod_eq_of_lt (show k < 2 ^ 64 by omega), Nat.shiftRight_eq_div_pow]
theorem and_m {k : Nat} (hk : k < 63) {x : Nat} (hx : x < 9223372036854775808) : hL (x : Int) &&& hL ((2 ^ k - 1 : Nat) : Int) = hL ((x % 2 ^ k : Nat) : Int) := by
  have h2 : x % 2 ^ k ≤ x := Nat.mod_le _ _
  have h3 : 2 ^ k < 2 ^ 63 := Nat.pow_lt_pow_right (by omega) hk
  apply hL_ext
  rw [hL_bvn (by omega), Int64.toBitVec_and, BitVec.toNat_and, hL_bvn (by omega), hL_bvn (by omega), Nat.and_two_pow_sub_one_eq_mod]
theorem hL_int {z : Int} (h : 0 ≤ z) : ∃ n : Nat, z = n := ⟨z.toNat, by omega⟩
theorem w8_or {x c : Int} (x1 : 0 ≤ x) (x2 : x < 36028797018963968) (c1 : 0 ≤ c) (c2 : c < 256) : (hL x <<< (Int32.toInt64 8 &&& 63)) ||| Int32.toInt64 (hI c) = hL (x * 256 + c) := by
  obtain ⟨n, rfl⟩ := hL_int x1
  obtain ⟨d, rfl⟩ := hL_int c1
  rw [hI_long (by omega) (by omega), shl_or (k := 8) (by decide) (by omega) (by omega) (by omega)]
  congr 1
theorem w5_or {x c : Int} (x1 : 0 ≤ x) (x2 : x < 36028797018963968) (c1 : 0 ≤ c) (c2 : c < 32) : (hL x <<< (Int32.toInt64 5 &&& 63)) ||| Int32.toInt64 (hI c) = hL (x * 32 + c) := by
  obtain ⟨n, rfl⟩ := hL_int x1
  obtain ⟨d, rfl⟩ := hL_int c1
  rw [hI_long (by omega) (by omega), shl_or (k := 5) (by decide) (by omega) (by omega) (by omega)]
  congr 1
theorem w20_or {x c : Int} (x1 : 0 ≤ x) (x2 : x < 1048576) (c1 : 0 ≤ c) (c2 : c < 1048576) : (Int32.toInt64 (hI x) <<< (Int32.toInt64 20 &&& 63)) ||| Int32.toInt64 (hI c) = hL (x * 1048576 + c) := by
  obtain ⟨n, rfl⟩ := hL_int x1
  obtain ⟨d, rfl⟩ := hL_int c1
  rw [hI_long (by omega) (by omega), hI_long (by omega) (by omega), shl_or (k := 20) (by decide) (by omega) (by omega) (by omega)]
  congr 1
theorem w20_hi {x : Int} (x1 : 0 ≤ x) (x2 : x < 1099511627776) : Int64.toInt32 (hL x >>> (Int32.toInt64 20 &&& 63)) = hI (x / 1048576) := by
  obtain ⟨n, rfl⟩ := hL_int x1
  rw [shr_s (k := 20) (by decide) (by omega) (by omega)]
  exact Int64.toInt32_ofInt
theorem w20_lo {x : Int} (x1 : 0 ≤ x) (x2 : x < 1099511627776) : Int64.toInt32 (hL x &&& 1048575) = hI (x % 1048576) := by
  obtain ⟨n, rfl⟩ := hL_int x1
  have := and_m (k := 20) (by omega) (x := n) (by omega)
  have e : (1048575 : Int64) = hL ((2 ^ 20 - 1 : Nat) : Int) := by decide
  rw [e, this]
  exact Int64.toInt32_ofInt
theorem w5_shr {x : Int} (x1 : 0 ≤ x) (x2 : x < 9223372036854775808) : hL x >>> (Int32.toInt64 5 &&& 63) = hL (x / 32) := by
  obtain ⟨n, rfl⟩ := hL_int x1
  rw [shr_s (k := 5) (by decide) (by omega) (by omega)]
  congr 1
/-- packed lists -/
theorem pk_acc (b d : Int) : ∀ (l : List Int) (a : Int), l.foldl (fun x c => x * b + (d + c)) a = a * b ^ l.length + pk b d l := by
  intro l
  induction l with
  | nil => intro a; simp [pk]
  | cons c l ih =>
    intro a
    unfold pk
    rw [List.foldl_cons, List.foldl_cons, ih, ih, List.length_cons, Int.pow_succ]
    rw [Int.zero_mul, Int.zero_add, Int.add_mul, Int.mul_assoc, Int.mul_comm b, Int.add_assoc]
theorem pk_cons {b d c : Int} {l : List Int} : pk b d (c :: l) = (d + c) * b ^ l.length + pk b d l := by
  have := pk_acc b d l (0 * b + (d + c))
  rw [Int.zero_mul, Int.zero_add] at this
  show List.foldl _ _ (c :: l) = _
  rw [List.foldl_cons, Int.zero_mul, Int.zero_add]
  exact this
theorem pk_snoc {b d c : Int} {l : List Int} : pk b d (l ++ [c]) = pk b d l * b + (d + c) := by
  unfold pk
  rw [List.foldl_append]
  rfl
theorem pk_r {b d : Int} (hb : 2 ≤ b) (hd : 0 ≤ d) (hd2 : d + 26 < b) : ∀ l : List Int, (∀ c ∈ l, 1 ≤ c ∧ c ≤ 26) → 0 ≤ pk b d l ∧ pk b d l < b ^ l.length := by
  intro l
  induction l with
  | nil => intro _; exact ⟨Int.le_refl 0, by show (0 : Int) < b ^ 0; rw [Int.pow_zero]; decide⟩
  | cons c l ih =>
    intro h
    have h1 := h c List.mem_cons_self
    have h2 := ih (fun x hx => h x (List.mem_cons_of_mem _ hx))
    rw [pk_cons, List.length_cons, Int.pow_succ]
    have hp : 0 ≤ (d + c) * b ^ l.length := Int.mul_nonneg (by omega) (by omega)
    have hq : (d + c) * b ^ l.length ≤ (b - 1) * b ^ l.length := Int.mul_le_mul_of_nonneg_right (by omega) (by omega)
    have he : (b - 1) * b ^ l.length = b ^ l.length * b - b ^ l.length := by rw [Int.sub_mul, Int.one_mul, Int.mul_comm]
    omega
theorem pk_lo {b d : Int} (hb : 2 ≤ b) (hd : 0 ≤ d) (hd2 : d + 26 < b) {c : Int} {l : List Int} (h : ∀ x ∈ c :: l, 1 ≤ x ∧ x ≤ 26) : b ^ l.length ≤ pk b d (c :: l) := by
  have h1 := h c List.mem_cons_self
  have h2 := pk_r hb hd hd2 l (fun x hx => h x (List.mem_cons_of_mem _ hx))
  rw [pk_cons]
  have hq : 1 * b ^ l.length ≤ (d + c) * b ^ l.length := Int.mul_le_mul_of_nonneg_right (by omega) (by omega)
  rw [Int.one_mul] at hq
  omega
/-- the letter at a place -/
theorem pk_at {b d : Int} (hb : 2 ≤ b) (hd : 0 ≤ d) (hd2 : d + 26 < b) : ∀ (l : List Int) (i : Nat) (hi : i < l.length), (∀ c ∈ l, 1 ≤ c ∧ c ≤ 26) → pk b d l / b ^ (l.length - 1 - i) % b = d + l[i] := by
  intro l
  induction l with
  | nil => intro i hi; exact absurd hi (Nat.not_lt_zero _)
  | cons c l ih =>
    intro i hi h
    have h1 := h c List.mem_cons_self
    have hl : ∀ x ∈ l, 1 ≤ x ∧ x ≤ 26 := fun x hx => h x (List.mem_cons_of_mem _ hx)
    have h2 := pk_r hb hd hd2 l hl
    rw [pk_cons]
    cases i with
    | zero =>
      rw [List.length_cons, show l.length + 1 - 1 - 0 = l.length by omega, Int.add_comm, Int.add_mul_ediv_right _ _ (by omega), Int.ediv_eq_zero_of_lt h2.1 h2.2, Int.zero_add, Int.emod_eq_of_lt (by omega) (by omega)]
      rfl
    | succ j =>
      have hj : j < l.length := by rw [List.length_cons] at hi; omega
      have e : b ^ l.length = b ^ j * b * b ^ (l.length - 1 - j) := by
        rw [← Int.pow_succ, ← Int.pow_add]
        congr 1
        omega
      have hp : 0 < b ^ (l.length - 1 - j) := Int.pow_pos (by omega)
      rw [List.length_cons, show l.length + 1 - 1 - (j + 1) = l.length - 1 - j by omega, Int.add_comm, e, ← Int.mul_assoc, Int.add_mul_ediv_right _ _ (by omega), ← Int.mul_assoc, Int.add_mul_emod_self_right, ih j hj hl]
      rfl
theorem pk_inj {b d : Int} (hb : 2 ≤ b) (hd : 0 ≤ d) (hd2 : d + 26 < b) {l l' : List Int} (h : hWd l) (h' : hWd l') (e : pk b d l = pk b d l') : l = l' := by
  have hp : ∀ m n : Nat, m ≤ n → b ^ m ≤ b ^ n := by
    intro m n hmn
    obtain ⟨k, rfl⟩ : ∃ k, n = m + k := ⟨n - m, by omega⟩
    clear hmn
    induction k with
    | zero => exact Int.le_refl _
    | succ k ih =>
      have h1 : 0 < b ^ (m + k) := Int.pow_pos (by omega)
      rw [show m + (k + 1) = (m + k) + 1 by omega, Int.pow_succ]
      have : b ^ (m + k) * 1 ≤ b ^ (m + k) * b := Int.mul_le_mul_of_nonneg_left (by omega) (by omega)
      omega
  have len : ∀ l l' : List Int, hWd l → hWd l' → pk b d l = pk b d l' → l.length ≤ l'.length := by
    intro l l' h h' e
    apply Nat.le_of_not_lt
    intro hlt
    cases l with
    | nil => simp at hlt
    | cons c l =>
      have h1 := pk_lo hb hd hd2 h.2.2
      have h2 := (pk_r hb hd hd2 l' h'.2.2).2
      have h3 := hp l'.length l.length (by rw [List.length_cons] at hlt; omega)
      omega
  have el : l.length = l'.length := Nat.le_antisymm (len l l' h h' e) (len l' l h' h e.symm)
  apply List.ext_getElem el
  intro i hi hi'
  have h1 := pk_at hb hd hd2 l i hi h.2.2
  have h2 := pk_at hb hd hd2 l' i hi' h'.2.2
  rw [e, el] at h1
  omega
end HHJ

/-! PLAIN FACTS: ints of the machine as integers, reading and writing, loops -/
section HHA
def hI (z : Int) : Int32 := Int32.ofInt z
def hL (z : Int) : Int64 := Int64.ofInt z
theorem hI_of (x : Int32) : hI x.toInt = x := Int32.ofInt_toInt x
theorem hI_v {z : Int} (h1 : -2147483648 ≤ z) (h2 : z < 2147483648) : (hI z).toInt = z := Int32.toInt_ofInt_of_le h1 h2
theorem hL_v {z : Int} (h1 : -9223372036854775808 ≤ z) (h2 : z < 9223372036854775808) : (hL z).toInt = z := Int64.toInt_ofInt_of_le h1 h2
theorem hI_ex (x : Int32) : ∃ z : Int, -2147483648 ≤ z ∧ z < 2147483648 ∧ x = hI z := ⟨x.toInt, Int32.le_toInt x, Int32.toInt_lt x, (hI_of x).symm⟩
theorem hI_add {a b : Int} : hI a + hI b = hI (a + b) := (Int32.ofInt_add a b).symm
theorem hI_sub {a b : Int} : hI a - hI b = hI (a - b) := (Int32.ofInt_sub a b).symm
theorem hI_mul {a b : Int} : hI a * hI b = hI (a * b) := (Int32.ofInt_mul a b).symm
theorem hI_neg {a : Int} : -hI a = hI (-a) := (Int32.ofInt_neg a).symm
theorem hI_lit (n : Nat) : (OfNat.ofNat n : Int32) = hI (OfNat.ofNat n : Int) := (Int32.ofInt_eq_ofNat (n := n)).symm
theorem hL_lit (n : Nat) : (OfNat.ofNat n : Int64) = hL (OfNat.ofNat n : Int) := (Int64.ofInt_eq_ofNat (n := n)).symm
theorem hI_lt {a b : Int} (h1 : -2147483648 ≤ a) (h2 : a < 2147483648) (h3 : -2147483648 ≤ b) (h4 : b < 2147483648) : (hI a < hI b) = (a < b) := by
  rw [Int32.lt_iff_toInt_lt, hI_v h1 h2, hI_v h3 h4]
theorem hI_eq {a b : Int} (h1 : -2147483648 ≤ a) (h2 : a < 2147483648) (h3 : -2147483648 ≤ b) (h4 : b < 2147483648) : (hI a = hI b) = (a = b) := by
  rw [← Int32.toInt_inj, hI_v h1 h2, hI_v h3 h4]
theorem ilt {α : Type} {A C : α} {a b : Int} (h1 : -2147483648 ≤ a) (h2 : a < 2147483648) (h3 : -2147483648 ≤ b) (h4 : b < 2147483648) : (if hI a < hI b then A else C) = if a < b then A else C := by
  have e := hI_lt h1 h2 h3 h4
  by_cases h : a < b
  · rw [if_pos h, if_pos (by rw [e]; exact h)]
  · rw [if_neg h, if_neg (by rw [e]; exact h)]
theorem ieq {α : Type} {A C : α} {a b : Int} (h1 : -2147483648 ≤ a) (h2 : a < 2147483648) (h3 : -2147483648 ≤ b) (h4 : b < 2147483648) : (if hI a = hI b then A else C) = if a = b then A else C := by
  have e := hI_eq h1 h2 h3 h4
  by_cases h : a = b
  · rw [if_pos h, if_pos (by rw [e]; exact h)]
  · rw [if_neg h, if_neg (by rw [e]; exact h)]
theorem hL_lt {a b : Int} (h1 : -9223372036854775808 ≤ a) (h2 : a < 9223372036854775808) (h3 : -9223372036854775808 ≤ b) (h4 : b < 9223372036854775808) : (hL a < hL b) = (a < b) := by
  rw [Int64.lt_iff_toInt_lt, hL_v h1 h2, hL_v h3 h4]
theorem hL_eq {a b : Int} (h1 : -9223372036854775808 ≤ a) (h2 : a < 9223372036854775808) (h3 : -9223372036854775808 ≤ b) (h4 : b < 9223372036854775808) : (hL a = hL b) = (a = b) := by
  rw [← Int64.toInt_inj, hL_v h1 h2, hL_v h3 h4]
theorem iLlt {α : Type} {A C : α} {a b : Int} (h1 : -9223372036854775808 ≤ a) (h2 : a < 9223372036854775808) (h3 : -9223372036854775808 ≤ b) (h4 : b < 9223372036854775808) : (if hL a < hL b then A else C) = if a < b then A else C := by
  have e := hL_lt h1 h2 h3 h4
  by_cases h : a < b
  · rw [if_pos h, if_pos (by rw [e]; exact h)]
  · rw [if_neg h, if_neg (by rw [e]; exact h)]
theorem iLeq {α : Type} {A C : α} {a b : Int} (h1 : -9223372036854775808 ≤ a) (h2 : a < 9223372036854775808) (h3 : -9223372036854775808 ≤ b) (h4 : b < 9223372036854775808) : (if hL a = hL b then A else C) = if a = b then A else C := by
  have e := hL_eq h1 h2 h3 h4
  by_cases h : a = b
  · rw [if_pos h, if_pos (by rw [e]; exact h)]
  · rw [if_neg h, if_neg (by rw [e]; exact h)]
theorem hI_long {z : Int} (h1 : -2147483648 ≤ z) (h2 : z < 2147483648) : (hI z).toInt64 = hL z := Int32.toInt64_ofInt h1 (Int.le_of_lt_add_one h2)
theorem hI_div {a b : Int} (h1 : 0 ≤ a) (h2 : a < 2147483648) (h3 : 0 < b) (h4 : b < 2147483648) : hI a / hI b = hI (a / b) := by
  have h := Int32.ofInt_tdiv (a := a) (b := b) (show (-2147483648 : Int) ≤ a by omega) (show a ≤ 2147483647 by omega) (show (-2147483648 : Int) ≤ b by omega) (show b ≤ 2147483647 by omega)
  rw [Int.tdiv_eq_ediv_of_nonneg h1] at h
  exact h.symm
theorem hI_ne0 {b : Int} (h3 : 0 < b) (h4 : b < 2147483648) : hI b ≠ 0 := by
  intro h
  have h2 : hI b = hI 0 := h
  rw [hI_eq (by omega) h4 (by omega) (by omega)] at h2
  omega
theorem zdiv_hI {a b : Int} (h1 : 0 ≤ a) (h2 : a < 2147483648) (h3 : 0 < b) (h4 : b < 2147483648) : zdiv (hI a) (hI b) = some (hI (a / b)) := by
  unfold zdiv
  rw [if_neg (hI_ne0 h3 h4), hI_div h1 h2 h3 h4]
theorem zrem_hI {a b : Int} (h1 : 0 ≤ a) (h2 : a < 2147483648) (h3 : 0 < b) (h4 : b < 2147483648) : zrem (hI a) (hI b) = some (hI (a % b)) := by
  unfold zrem
  rw [if_neg (hI_ne0 h3 h4), hI_div h1 h2 h3 h4, hI_mul, hI_sub]
  have h5 := Int.emod_def a b
  rw [Int.mul_comm] at h5
  rw [h5]
theorem px_in_hI {z : Int} {n : Nat} (h1 : 0 ≤ z) (h2 : z < n) (h3 : z < 2147483648) : px_in (hI z) n = true := by
  have e1 : (hI z < 0) = (z < 0) := hI_lt (a := z) (b := 0) (by omega) h3 (by omega) (by omega)
  have e2 : (hI z).toNatClampNeg = z.toNat := Int32.toNatClampNeg_ofInt_of_le (by omega) h3
  unfold px_in
  rw [e2]
  simp only [Bool.not_eq_true', Bool.or_eq_false_iff, decide_eq_false_iff_not, e1]
  omega
theorem hI_nat {z : Int} (h1 : 0 ≤ z) (h3 : z < 2147483648) : (hI z).toNatClampNeg = z.toNat := Int32.toNatClampNeg_ofInt_of_le (by omega) h3
theorem rd_hI {α : Type} {f : Nat → α} {z : Int} {n : Nat} (h1 : 0 ≤ z) (h2 : z < n) (h3 : z < 2147483648) : rd n f (hI z) = some (f z.toNat) := by
  unfold rd
  rw [if_pos (px_in_hI h1 h2 h3), hI_nat h1 h3]
theorem rix_hI {z : Int} {n : Nat} (h1 : 0 ≤ z) (h2 : z < n) (h3 : z < 2147483648) : rix n (hI z) = some z.toNat := by
  unfold rix
  rw [if_pos (px_in_hI h1 h2 h3), hI_nat h1 h3]
theorem wr_hI {f : Nat → Int32} {v : Int32} {z : Int} {n : Nat} (h1 : 0 ≤ z) (h2 : z < n) (h3 : z < 2147483648) : wr n f (hI z) v = some (upd f z.toNat v) := by
  unfold wr
  rw [if_pos (px_in_hI h1 h2 h3), hI_nat h1 h3]
theorem wrb_hI {f : Nat → Int32} {v : Int32} {z : Int} {n : Nat} (h1 : 0 ≤ z) (h2 : z < n) (h3 : z < 2147483648) : wrb n f (hI z) v = some (upd f z.toNat (vp_nar .byte v)) := by
  unfold wrb
  rw [if_pos (px_in_hI h1 h2 h3), hI_nat h1 h3]
theorem bnd_s {α γ : Type} {a : α} {f : α → Option γ} : bnd (some a) f = f a := rfl
theorem bnd2_s {α β γ : Type} {a : α} {b : β} {f : α → β → Option γ} : bnd2 (some (a, b)) f = f a b := rfl
theorem bnd3_s {α β β' γ : Type} {a : α} {b : β} {c : β'} {f : α → β → β' → Option γ} : bnd3 (some (a, b, c)) f = f a b c := rfl
theorem bnd4_s {α β β' β'' γ : Type} {a : α} {b : β} {c : β'} {d : β''} {f : α → β → β' → β'' → Option γ} : bnd4 (some (a, b, c, d)) f = f a b c d := rfl
theorem bnd5_s {α0 α1 α2 α3 α4 γ : Type} {a : α0} {b : α1} {c : α2} {d : α3} {e : α4} {f : α0 → α1 → α2 → α3 → α4 → Option γ} : bnd5 (some (a, b, c, d, e)) f = f a b c d e := rfl
theorem bnx_l {α γ : Type} {a : α} {f : α → Option γ} {g : String → Option γ} : bnx (some (.inl a)) f g = f a := rfl
theorem bnx_r {α γ : Type} {E : String} {f : α → Option γ} {g : String → Option γ} : bnx (some (.inr E)) f g = g E := rfl
/-- the sign of an exclusive or -/
theorem xor_neg {a b : Int} (h1 : -2147483648 ≤ a) (h2 : a < 2147483648) (h3 : 0 ≤ b) (h4 : b < 2147483648) : (hI a ^^^ hI b < 0) = (a < 0) := by
  have k : ∀ x : Int32, (x < 0) = (x.toBitVec.msb = true) := by
    intro x
    have e : (x < 0) ↔ x.toBitVec.slt 0#32 = true := Iff.rfl
    rw [e, BitVec.slt_zero_eq_msb]
  have m1 : (hI a).toBitVec.msb = decide (a < 0) := by
    have := k (hI a)
    rw [show (0 : Int32) = hI 0 from rfl, hI_lt h1 h2 (by omega) (by omega)] at this
    rw [Bool.eq_iff_iff, decide_eq_true_iff, ← this]
  have m2 : (hI b).toBitVec.msb = false := by
    have := k (hI b)
    rw [show (0 : Int32) = hI 0 from rfl, hI_lt (by omega) h4 (by omega) (by omega)] at this
    rw [Bool.eq_false_iff]
    intro h
    rw [← this] at h
    omega
  rw [k, Int32.toBitVec_xor, BitVec.msb_xor, m1, m2, Bool.xor_false, decide_eq_true_iff]
theorem hI_tdiv {a b : Int} (h1 : -2147483648 ≤ a) (h2 : a < 2147483648) (h3 : -2147483648 ≤ b) (h4 : b < 2147483648) : hI a / hI b = hI (a.tdiv b) :=
  (Int32.ofInt_tdiv (a := a) (b := b) (show (-2147483648 : Int) ≤ a by omega) (show a ≤ 2147483647 by omega) (show (-2147483648 : Int) ≤ b by omega) (show b ≤ 2147483647 by omega)).symm
theorem tdiv_neg15 {a d : Int} (hd : d = 15 ∨ d = 24) : a.tdiv d = if 0 ≤ a then a / d else -(-a / d) := by
  by_cases h : 0 ≤ a
  · rw [if_pos h, Int.tdiv_eq_ediv_of_nonneg h]
  · rw [if_neg h]
    have e : a = -(-a) := by omega
    rw [e, Int.neg_tdiv, Int.tdiv_eq_ediv_of_nonneg (show 0 ≤ -a by omega)]
    simp only [Int.neg_neg]
/-- the JDK's floors and the reference's -/
theorem fJ_div {a d : Int} (hd : d = 15 ∨ d = 24) (h1 : -2147483648 ≤ a) (h2 : a < 2147483648) : fJ_floorDiv_7cf53 (hI a) (hI d) = some (hI (a / d)) := by
  have hd0 : 0 < d ∧ d < 25 := by omega
  unfold fJ_floorDiv_7cf53 zdiv
  have hn : hI d ≠ 0 := hI_ne0 (by omega) (by omega)
  rw [if_neg hn, bnd_s, hI_tdiv h1 h2 (by omega) (by omega), tdiv_neg15 hd, show (0 : Int32) = hI 0 from rfl, show (1 : Int32) = hI 1 from rfl]
  have hx : (hI a ^^^ hI d < hI 0) = (a < 0) := xor_neg h1 h2 (by omega) (by omega)
  rw [hI_mul, hI_sub]
  by_cases h : a < 0
  · rw [if_pos (by rw [hx]; exact h), if_neg (show ¬ 0 ≤ a by omega)]
    rcases hd with rfl | rfl
    · rw [ieq (by omega) (by omega) (by omega) (by omega)]
      split <;> (congr 2; omega)
    · rw [ieq (by omega) (by omega) (by omega) (by omega)]
      split <;> (congr 2; omega)
  · rw [if_neg (by rw [hx]; exact h), if_pos (show 0 ≤ a by omega)]
theorem fJ_mod {a d : Int} (hd : d = 15 ∨ d = 24) (h1 : -2147483648 ≤ a) (h2 : a < 2147483648) : fJ_floorMod_7cf53 (hI a) (hI d) = some (hI (a % d)) := by
  have hd0 : 0 < d ∧ d < 25 := by omega
  unfold fJ_floorMod_7cf53 zrem
  have hn : hI d ≠ 0 := hI_ne0 (by omega) (by omega)
  rw [if_neg hn, bnd_s, hI_tdiv h1 h2 (by omega) (by omega), tdiv_neg15 hd, show (0 : Int32) = hI 0 from rfl]
  have hx : (hI a ^^^ hI d < hI 0) = (a < 0) := xor_neg h1 h2 (by omega) (by omega)
  rw [hI_mul, hI_sub, hI_add]
  by_cases h : a < 0
  · rw [if_pos (by rw [hx]; exact h), if_neg (show ¬ 0 ≤ a by omega)]
    rcases hd with rfl | rfl
    · rw [ieq (by omega) (by omega) (by omega) (by omega)]
      split <;> (congr 2; omega)
    · rw [ieq (by omega) (by omega) (by omega) (by omega)]
      split <;> (congr 2; omega)
  · rw [if_neg (by rw [hx]; exact h), if_pos (show 0 ≤ a by omega)]
    rcases hd with rfl | rfl <;> (congr 2; omega)
theorem fM_fl {a d : Int} (hd : d = 15 ∨ d = 24) (h1 : -1073741824 ≤ a) (h2 : a < 1073741824) : fM_floored (hI a) (hI d) = some (hI (a / d)) := by
  have hd0 : 0 < d ∧ d < 25 := by omega
  unfold fM_floored
  rw [show (0 : Int32) = hI 0 from rfl, show (1 : Int32) = hI 1 from rfl, ilt (by omega) (by omega) (by omega) (by omega), hI_sub, hI_sub]
  by_cases h : a < 0
  · rw [if_pos h, zdiv_hI (by omega) (by omega) (by omega) (by omega), bnd_s, hI_neg]
    rcases hd with rfl | rfl <;> (congr 2; omega)
  · rw [if_neg h, zdiv_hI (by omega) (by omega) (by omega) (by omega), bnd_s]
/-- two loops side by side -/
theorem it_two0 {σ1 σ2 ρ1 ρ2 : Type} {b1 : σ1 → Option (σ1 ⊕ ρ1)} {b2 : σ2 → Option (σ2 ⊕ ρ2)} (n : Nat) (P : Nat → σ1 → σ2 → Prop) (Q : ρ1 → ρ2 → Prop)
    (h : ∀ i s1 s2, i ≤ n → P i s1 s2 → (i < n ∧ ∃ s1' s2', b1 s1 = some (.inl s1') ∧ b2 s2 = some (.inl s2') ∧ P (i + 1) s1' s2') ∨ (∃ r1 r2, b1 s1 = some (.inr r1) ∧ b2 s2 = some (.inr r2) ∧ Q r1 r2)) :
    ∀ m i s1 s2 f1 f2, i ≤ n → n < i + m → m ≤ f1 → m ≤ f2 → P i s1 s2 → ∃ r1 r2, iter b1 f1 s1 = some r1 ∧ iter b2 f2 s2 = some r2 ∧ Q r1 r2 := by
  intro m
  induction m with
  | zero => intro i s1 s2 f1 f2 h1 h2; omega
  | succ m ih =>
    intro i s1 s2 f1 f2 h1 h2 h3 h4 hP
    obtain ⟨f1, rfl⟩ : ∃ k, f1 = k + 1 := ⟨f1 - 1, by omega⟩
    obtain ⟨f2, rfl⟩ : ∃ k, f2 = k + 1 := ⟨f2 - 1, by omega⟩
    rcases h i s1 s2 h1 hP with ⟨hi, s1', s2', e1, e2, hP'⟩ | ⟨r1, r2, e1, e2, hQ⟩
    · obtain ⟨r1, r2, g1, g2, hQ⟩ := ih (i + 1) s1' s2' f1 f2 (by omega) (by omega) (by omega) (by omega) hP'
      refine ⟨r1, r2, ?_, ?_, hQ⟩
      · simp only [iter, e1, g1]
      · simp only [iter, e2, g2]
    · refine ⟨r1, r2, ?_, ?_, hQ⟩
      · simp only [iter, e1]
      · simp only [iter, e2]
theorem it_two {σ1 σ2 ρ1 ρ2 : Type} {b1 : σ1 → Option (σ1 ⊕ ρ1)} {b2 : σ2 → Option (σ2 ⊕ ρ2)} (n : Nat) (P : Nat → σ1 → σ2 → Prop) (Q : ρ1 → ρ2 → Prop) {s1 : σ1} {s2 : σ2} (hn : n < 900000) (h0 : P 0 s1 s2)
    (h : ∀ i s1 s2, i ≤ n → P i s1 s2 → (i < n ∧ ∃ s1' s2', b1 s1 = some (.inl s1') ∧ b2 s2 = some (.inl s2') ∧ P (i + 1) s1' s2') ∨ (∃ r1 r2, b1 s1 = some (.inr r1) ∧ b2 s2 = some (.inr r2) ∧ Q r1 r2)) :
    ∃ r1 r2, iter b1 fu s1 = some r1 ∧ iter b2 fu s2 = some r2 ∧ Q r1 r2 :=
  it_two0 n P Q h (n + 1) 0 s1 s2 fu fu (by omega) (by omega) (by unfold fu; omega) (by unfold fu; omega) h0
/-- one loop -/
theorem it_one0 {σ ρ : Type} {b : σ → Option (σ ⊕ ρ)} (n : Nat) (P : Nat → σ → Prop) (Q : ρ → Prop)
    (h : ∀ i s, i ≤ n → P i s → (i < n ∧ ∃ s', b s = some (.inl s') ∧ P (i + 1) s') ∨ (∃ r, b s = some (.inr r) ∧ Q r)) :
    ∀ m i s f, i ≤ n → n < i + m → m ≤ f → P i s → ∃ r, iter b f s = some r ∧ Q r := by
  intro m
  induction m with
  | zero => intro i s f h1 h2; omega
  | succ m ih =>
    intro i s f h1 h2 h3 hP
    obtain ⟨f, rfl⟩ : ∃ k, f = k + 1 := ⟨f - 1, by omega⟩
    rcases h i s h1 hP with ⟨hi, s', e1, hP'⟩ | ⟨r, e1, hQ⟩
    · obtain ⟨r, g1, hQ⟩ := ih (i + 1) s' f (by omega) (by omega) (by omega) hP'
      exact ⟨r, by simp only [iter, e1, g1], hQ⟩
    · exact ⟨r, by simp only [iter, e1], hQ⟩
theorem it_one {σ ρ : Type} {b : σ → Option (σ ⊕ ρ)} (n : Nat) (P : Nat → σ → Prop) (Q : ρ → Prop) {s : σ} (hn : n < 900000) (h0 : P 0 s)
    (h : ∀ i s, i ≤ n → P i s → (i < n ∧ ∃ s', b s = some (.inl s') ∧ P (i + 1) s') ∨ (∃ r, b s = some (.inr r) ∧ Q r)) :
    ∃ r, iter b fu s = some r ∧ Q r :=
  it_one0 n P Q h (n + 1) 0 s fu (by omega) (by omega) (by unfold fu; omega) h0
theorem it_exit {σ ρ : Type} {b : σ → Option (σ ⊕ ρ)} {s : σ} {r : ρ} (h : b s = some (.inr r)) : iter b fu s = some r := by
  obtain ⟨r1, h1, h2⟩ := it_one (b := b) 0 (fun _ s1 => s1 = s) (fun r1 => r1 = r) (by omega) rfl (fun i s1 _ e => Or.inr ⟨r, by rw [e]; exact h, rfl⟩)
  rw [h1, h2]
end HHA

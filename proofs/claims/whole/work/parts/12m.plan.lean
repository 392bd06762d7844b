/-! THE SCRIPT'S PLAN -/
section HIM
variable {C C1 : zC} {n p q k v x t i j : Int}
abbrev zT := Int × Int × Int × Int
def nth (e : List zT) (j : Nat) : zT := e.getD j (0, 0, 0, 0)
def rpN (e : List zT) : Nat → List zT
  | 0 => []
  | n + 1 => e ++ rpN e n
theorem rpN_len {e : List zT} {n : Nat} : (rpN e n).length = n * e.length := by
  induction n with
  | zero => show 0 = _; rw [Nat.zero_mul]
  | succ n ih =>
    show (e ++ rpN e n).length = _
    rw [List.length_append, ih, Nat.succ_mul, Nat.add_comm]
theorem nth_l {e f : List zT} {j : Nat} (h : j < e.length) : nth (e ++ f) j = nth e j := by
  unfold nth
  rw [List.getD_eq_getElem?_getD, List.getD_eq_getElem?_getD, List.getElem?_append_left h]
theorem nth_r {e f : List zT} {j : Nat} (h : e.length ≤ j) : nth (e ++ f) j = nth f (j - e.length) := by
  unfold nth
  rw [List.getD_eq_getElem?_getD, List.getD_eq_getElem?_getD, List.getElem?_append_right h]
theorem rpN_per {e : List zT} : ∀ (n j : Nat), e.length + j < n * e.length → nth (rpN e n) (e.length + j) = nth (rpN e n) j := by
  intro n
  induction n with
  | zero => intro j h; omega
  | succ n ih =>
    intro j h
    show nth (e ++ rpN e n) (e.length + j) = nth (e ++ rpN e n) j
    rw [nth_r (by omega), show e.length + j - e.length = j by omega]
    rw [Nat.succ_mul] at h
    by_cases c : j < e.length
    · rw [nth_l c]
      cases n with
      | zero => omega
      | succ n => exact nth_l c
    · rw [nth_r (by omega)]
      have h2 := ih (j - e.length) (by omega)
      rw [show e.length + (j - e.length) = j by omega] at h2
      exact h2
def m40 (n : Nat) : Nat := if n < 40 then n else 40
theorem m40_le {n : Nat} : m40 n ≤ 40 ∧ m40 n ≤ n := by
  unfold m40
  split <;> omega
/-- the class's plan holds the first forty of L items -/
def hP (C : zC) (L : Nat) (g : Nat → zT) : Prop := sF C 1 = hI (m40 L) ∧ ∀ j : Nat, j < m40 L → sA C 2 j = hI ((g j).1 + 1) ∧ sA C 3 j = hI (g j).2.1 ∧ sA C 4 j = hI (g j).2.2.1 ∧ sA C 5 j = hI (g j).2.2.2
theorem sF_same {k : Nat} {v : Int32} : sF (wsF C k v) k = v := z1_same
theorem sF_ne {k k' : Nat} {v : Int32} (h : k' ≠ k) : sF (wsF C k v) k' = sF C k' := z1_ne h
theorem sF_wA {k a : Nat} {f : Nat → Int32} : sF (wsA C a f) k = sF C k := rfl
theorem sA_wF {k a : Nat} {v : Int32} : sA (wsF C k v) a = sA C a := rfl
theorem sA_same {a : Nat} {f : Nat → Int32} : sA (wsA C a f) a = f := z1_same
theorem sA_ne {a a' : Nat} {f : Nat → Int32} (h : a' ≠ a) : sA (wsA C a f) a' = sA C a' := z1_ne h
/-- the rest of the script's own cells -/
def fSc (C C1 : zC) : Prop := (∀ k, k ≠ 1 → sF C1 k = sF C k) ∧ (∀ a, a = 7 ∨ a = 8 → sA C1 a = sA C a)
theorem hP_c {L : Nat} {g g' : Nat → zT} (h : hP C L g) (e : ∀ j, j < m40 L → g' j = g j) : hP C L g' := ⟨h.1, fun j hj => by rw [e j hj]; exact h.2 j hj⟩
theorem hP_40 {L L' : Nat} {g : Nat → zT} (h : hP C L g) (h1 : 40 ≤ L) (h2 : 40 ≤ L') : hP C L' g := by
  have e1 : m40 L = 40 := if_neg (by omega)
  have e2 : m40 L' = 40 := if_neg (by omega)
  refine ⟨by rw [e2, h.1, e1], fun j hj => h.2 j (by omega)⟩
theorem hP_F {L : Nat} {g : Nat → zT} {v : Int32} {k : Nat} (hk : k ≠ 1) (h : hP C L g) : hP (wsF C k v) L g := ⟨by rw [sF_ne (by omega)]; exact h.1, h.2⟩
theorem g_plan {L : Nat} {g : Nat → zT} {it : zT} (h : hP C L g) (hit : L < 40 → g L = it) : ∃ C1, fS_plan C (hI (it.1 + 1)) (hI it.2.1) (hI it.2.2.1) (hI it.2.2.2) = some C1 ∧ hP C1 (L + 1) g ∧ fSc C C1 := by
  unfold fS_plan
  have hm := m40_le (n := L)
  rw [h.1, show (40 : Int32) = hI 40 from rfl, ilt (by omega) (by omega) (by omega) (by omega)]
  by_cases c : L < 40
  · have e1 : m40 L = L := if_pos c
    have e2 : m40 (L + 1) = L + 1 := by
      unfold m40
      split <;> omega
    have h1 := h.1
    rw [e1] at h1
    rw [e1, if_pos (by omega), wr_hI (by omega) (by omega) (by omega), bnd_s, bnd_s, sF_wA, h1, sA_ne (by decide), wr_hI (by omega) (by omega) (by omega), bnd_s, bnd_s, sF_wA, sF_wA, h1, sA_ne (by decide), sA_ne (by decide), wr_hI (by omega) (by omega) (by omega), bnd_s, bnd_s, sF_wA, sF_wA, sF_wA, h1, sA_ne (by decide), sA_ne (by decide), sA_ne (by decide), wr_hI (by omega) (by omega) (by omega), bnd_s, bnd_s, sF_wA, sF_wA, sF_wA, sF_wA, h1, bnd_s, show (1 : Int32) = hI 1 from rfl, hI_add]
    refine ⟨_, rfl, ⟨?_, fun j hj => ?_⟩, fun k hk => sF_ne hk, fun a ha => ?_⟩
    · rw [sF_same, e2]; exact congrArg hI (by omega)
    · rw [e2] at hj
      have q2 : ∀ x y z w u : Int32, ∀ L : Nat, sA (wsF (wsA (wsA (wsA (wsA C 2 (upd (sA C 2) L x)) 3 (upd (sA C 3) L y)) 4 (upd (sA C 4) L z)) 5 (upd (sA C 5) L w)) 1 u) 2 = upd (sA C 2) L x := fun x y z w u L => by rw [sA_wF, sA_ne (by decide), sA_ne (by decide), sA_ne (by decide), sA_same]
      have q3 : ∀ x y z w u : Int32, ∀ L : Nat, sA (wsF (wsA (wsA (wsA (wsA C 2 (upd (sA C 2) L x)) 3 (upd (sA C 3) L y)) 4 (upd (sA C 4) L z)) 5 (upd (sA C 5) L w)) 1 u) 3 = upd (sA C 3) L y := fun x y z w u L => by rw [sA_wF, sA_ne (by decide), sA_ne (by decide), sA_same]
      have q4 : ∀ x y z w u : Int32, ∀ L : Nat, sA (wsF (wsA (wsA (wsA (wsA C 2 (upd (sA C 2) L x)) 3 (upd (sA C 3) L y)) 4 (upd (sA C 4) L z)) 5 (upd (sA C 5) L w)) 1 u) 4 = upd (sA C 4) L z := fun x y z w u L => by rw [sA_wF, sA_ne (by decide), sA_same]
      have q5 : ∀ x y z w u : Int32, ∀ L : Nat, sA (wsF (wsA (wsA (wsA (wsA C 2 (upd (sA C 2) L x)) 3 (upd (sA C 3) L y)) 4 (upd (sA C 4) L z)) 5 (upd (sA C 5) L w)) 1 u) 5 = upd (sA C 5) L w := fun x y z w u L => by rw [sA_wF, sA_same]
      rw [q2, q3, q4, q5, upd_w, upd_w, upd_w, upd_w]
      by_cases d : j = L
      · rw [if_pos (by omega), if_pos (by omega), if_pos (by omega), if_pos (by omega), d, hit c]
        exact ⟨rfl, rfl, rfl, rfl⟩
      · rw [if_neg (by omega), if_neg (by omega), if_neg (by omega), if_neg (by omega)]
        exact h.2 j (by omega)
    · rw [sA_wF, sA_ne (by omega), sA_ne (by omega), sA_ne (by omega), sA_ne (by omega)]
  · have e1 : m40 L = 40 := if_neg c
    rw [e1, if_neg (by omega)]
    exact ⟨C, rfl, hP_40 h (by omega) (by omega), fun _ _ => rfl, fun _ _ => rfl⟩
/-- a ')' : the body is planned again, times - 1 more -/
theorem g_again {I : zI} {g : Nat → zT} {t b L0 : Nat} (t2 : t ≤ 20) (ll : L0 + b < 40) (per : ∀ j, b + j < b * t → g (L0 + (b + j)) = g (L0 + j)) (hk1 : 0 ≤ k) (hk2 : k < 2) (e6 : sF C 6 = hI k) (e8 : sA C 8 k.toNat = hI t) : ∀ (m i : Nat) (C1 : zC) (f : Nat), b + i + m = b * t → m + 1 ≤ f → hP C1 (L0 + (b + i)) g → fSc C C1 →
    ∃ C2, iter (fun s => fS_closeRepeat_b27 I (hI b) s.1 s.2) f (C1, hI ((b + i : Nat) : Int)) = fS_closeRepeat_j97 I C2 ∧ hP C2 (L0 + b * t) g ∧ fSc C C2 := by
  have hbt : b * t ≤ 800 := Nat.mul_le_mul (show b ≤ 40 by omega) t2
  intro m
  induction m with
  | zero =>
    intro i C1 f h1 h2 h3 h4
    obtain ⟨f, rfl⟩ : ∃ k, f = k + 1 := ⟨f - 1, by omega⟩
    refine ⟨C1, it_ex2 (show fS_closeRepeat_b27 I (hI b) C1 (hI ((b + i : Nat) : Int)) = _ from ?_), by rw [← h1]; exact h3, h4⟩
    unfold fS_closeRepeat_b27
    rw [h4.1 6 (by decide), h4.2 8 (by omega), e6, rd_hI (by omega) (by omega) (by omega), e8, bnd_s, hI_mul, ← Int.natCast_mul, ilt (by omega) (by omega) (by omega) (by omega), if_neg (by omega)]
  | succ m ih =>
    intro i C1 f h1 h2 h3 h4
    obtain ⟨f, rfl⟩ : ∃ k, f = k + 1 := ⟨f - 1, by omega⟩
    have hm := m40_le (n := L0 + (b + i))
    by_cases c : L0 + (b + i) < 40
    · have e1 : m40 (L0 + (b + i)) = L0 + (b + i) := if_pos c
      have b0 : 0 < b := by
        refine Nat.pos_of_ne_zero fun z => ?_
        rw [z, Nat.zero_mul] at h1
        omega
      obtain ⟨r1, r2, r3, r4⟩ := h3.2 (L0 + i) (by omega)
      obtain ⟨C2, p1, p2, p3⟩ := g_plan (it := g (L0 + i)) h3 (fun _ => per i (by omega))
      have st : fS_closeRepeat_b27 I (hI b) C1 (hI ((b + i : Nat) : Int)) = some (.inl (C2, hI ((b + (i + 1) : Nat) : Int))) := by
        have ex : hI ((L0 + (b + i) : Nat) : Int) - hI b = hI ((L0 + i : Nat) : Int) := by
          rw [hI_sub]; exact congrArg hI (by omega)
        have nn : ((L0 + i : Nat) : Int).toNat = L0 + i := by omega
        unfold fS_closeRepeat_b27
        rw [h4.1 6 (by decide), h4.2 8 (by omega), e6, rd_hI (by omega) (by omega) (by omega), e8, bnd_s, hI_mul, ← Int.natCast_mul, ilt (by omega) (by omega) (by omega) (by omega), if_pos (by omega), h3.1, e1, show (40 : Int32) = hI 40 from rfl, ilt (by omega) (by omega) (by omega) (by omega), if_pos (by omega), ex, rd_hI (by omega) (by omega) (by omega), bnd_s, rd_hI (by omega) (by omega) (by omega), bnd_s, rd_hI (by omega) (by omega) (by omega), bnd_s, rd_hI (by omega) (by omega) (by omega), bnd_s, nn, r1, r2, r3, r4, p1, bnd_s, show (1 : Int32) = hI 1 from rfl, hI_add]
        rfl
      have l1 := it_su (n := f) (b := fun s => fS_closeRepeat_b27 I (hI b) s.1 s.2) (s := (C1, hI ((b + i : Nat) : Int))) st
      rw [l1]
      exact ih (i + 1) C2 f (by omega) (by omega) p2 ⟨fun k hk => (p3.1 k hk).trans (h4.1 k hk), fun a ha => (p3.2 a ha).trans (h4.2 a ha)⟩
    · have e1 : m40 (L0 + (b + i)) = 40 := if_neg c
      refine ⟨C1, it_ex2 (show fS_closeRepeat_b27 I (hI b) C1 (hI ((b + i : Nat) : Int)) = _ from ?_), hP_40 h3 (by omega) (by omega), h4⟩
      unfold fS_closeRepeat_b27
      rw [h4.1 6 (by decide), h4.2 8 (by omega), e6, rd_hI (by omega) (by omega) (by omega), e8, bnd_s, h3.1, e1, show (40 : Int32) = hI 40 from rfl, ilt (by omega) (by omega) (by omega) (by omega)]
      split <;> rfl
end HIM

/-! OPEN REPEATS -/
section HIR
variable {C C1 : zC} {n p q k v x N c hi : Int} {pr pr' : Int → zT} {e f : List zT} {t : Nat}
/-- d repeats open: the program up to N has the items e -/
def Nest (C : zC) (pr : Int → zT) : Nat → Int → List zT → Prop
  | 0, N, e => ∃ m, Seg pr m 2 0 N e
  | d + 1, N, e => ∃ (c : Int) (t m : Nat) (e0 e1 : List zT), Nest C pr d c e0 ∧ 0 ≤ c ∧ c < N ∧ (pr c).1 = 6 ∧ (pr c).2.1 = t ∧ 1 ≤ t ∧ t ≤ 20 ∧ Seg pr m (2 - (d + 1)) (c + 1) N e1 ∧ e = e0 ++ e1 ∧ sA C 7 d = hI (m40 e0.length) ∧ sA C 8 d = hI t
theorem Nest_c : ∀ (d : Nat) (N : Int) (e : List zT), (∀ w, 0 ≤ w → w < N → pr' w = pr w) → (∀ j, j < d → sA C1 7 j = sA C 7 j ∧ sA C1 8 j = sA C 8 j) → Nest C pr d N e → Nest C1 pr' d N e := by
  intro d
  induction d with
  | zero =>
    intro N e h1 h2 ⟨m, h3⟩
    exact ⟨m, Seg_c _ _ _ _ _ (fun w a b => h1 w a b) h3⟩
  | succ d ih =>
    intro N e h1 h2 ⟨c, t, m, e0, e1, a1, a2, a3, a4, a5, a6, a7, a8, a9, a10, a11⟩
    have ec := h1 c a2 a3
    exact ⟨c, t, m, e0, e1, ih c e0 (fun w w1 w2 => h1 w w1 (by omega)) (fun j hj => h2 j (by omega)) a1, a2, a3, by rw [ec]; exact a4, by rw [ec]; exact a5, a6, a7, Seg_c _ _ _ _ _ (fun w w1 w2 => h1 w (by omega) w2) a8, a9, by rw [(h2 d (by omega)).1]; exact a10, by rw [(h2 d (by omega)).2]; exact a11⟩
theorem Nest_app : ∀ (d : Nat) (N hi : Int) (e f : List zT) (m : Nat), Nest C pr d N e → Seg pr m (2 - d) N hi f → Nest C pr d hi (e ++ f) := by
  intro d N hi e f m h1 h2
  have hl := Seg_le _ _ _ _ _ h2
  cases d with
  | zero =>
    obtain ⟨m1, h3⟩ := h1
    exact ⟨m1 + m, Seg_app _ _ _ _ _ _ _ _ h3 h2⟩
  | succ d =>
    obtain ⟨c, t, m1, e0, e1, a1, a2, a3, a4, a5, a6, a7, a8, a9, a10, a11⟩ := h1
    exact ⟨c, t, m1 + m, e0, e1 ++ f, a1, a2, by omega, a4, a5, a6, a7, Seg_app _ _ _ _ _ _ _ _ a8 h2, by rw [a9, List.append_assoc], a10, a11⟩
theorem ext_old {it : zT} (N0 : 0 ≤ N) : ∀ w, 0 ≤ w → w < N → ext pr N it w = pr w := fun w _ h => if_neg (by omega)
/-- a command behind -/
theorem Nest_cmd {it : zT} {d : Nat} (N0 : 0 ≤ N) (h : Nest C pr d N e) (i0 : 0 ≤ it.1 ∧ it.1 ≤ 5) (e7 : sA C1 7 = sA C 7) (e8 : sA C1 8 = sA C 8) : Nest C1 (ext pr N it) d (N + 1) (e ++ [it]) := by
  have en : ext pr N it N = it := if_pos rfl
  refine Nest_app d N (N + 1) e [it] 1 (Nest_c d N e (ext_old N0) (fun j _ => ⟨by rw [e7], by rw [e8]⟩) h) (Or.inr (Or.inl ⟨by rw [en]; exact i0, [], by rw [en], Seg_0⟩))
/-- a repeat opened -/
theorem Nest_open {d : Nat} (N0 : 0 ≤ N) (h : Nest C pr d N e) (t1 : 1 ≤ t) (t2 : t ≤ 20) (e7 : sA C1 7 = upd (sA C 7) d (hI (m40 e.length))) (e8 : sA C1 8 = upd (sA C 8) d (hI t)) : Nest C1 (ext pr N (6, (t : Int), 0, 0)) (d + 1) (N + 1) e := by
  have en : ext pr N (6, (t : Int), 0, 0) N = (6, (t : Int), 0, 0) := if_pos rfl
  refine ⟨N, t, 0, e, [], Nest_c d N e (ext_old N0) (fun j hj => ⟨?_, ?_⟩) h, N0, by omega, by rw [en], by rw [en], t1, t2, Seg_0, (List.append_nil e).symm, ?_, ?_⟩
  · rw [e7, upd_w, if_neg (by omega)]
  · rw [e8, upd_w, if_neg (by omega)]
  · rw [e7, upd_w, if_pos rfl]
  · rw [e8, upd_w, if_pos rfl]
/-- a repeat closed -/
theorem Nest_close {d : Nat} {z : zT} (hd : d + 1 ≤ 2) (N0 : 0 ≤ N) (h : Nest C pr (d + 1) N e) (hz : z.1 = 7) : ∃ (t : Nat) (e0 e1 : List zT), e = e0 ++ e1 ∧ 1 ≤ t ∧ t ≤ 20 ∧ sA C 7 d = hI (m40 e0.length) ∧ sA C 8 d = hI t ∧ ∀ C1 : zC, sA C1 7 = sA C 7 → sA C1 8 = sA C 8 → Nest C1 (ext pr N z) d (N + 1) (e0 ++ rpN e1 t) := by
  obtain ⟨c, t, m, e0, e1, a1, a2, a3, a4, a5, a6, a7, a8, a9, a10, a11⟩ := h
  refine ⟨t, e0, e1, a9, a6, a7, a10, a11, fun C1 e7 e8 => ?_⟩
  have en : ext pr N z N = z := if_pos rfl
  have ec : ext pr N z c = pr c := if_neg (by omega)
  refine Nest_app d c (N + 1) e0 (rpN e1 t) (m + 1) (Nest_c d c e0 (fun w w1 w2 => if_neg (by omega)) (fun j _ => ⟨by rw [e7], by rw [e8]⟩) a1) (Or.inr (Or.inr ⟨by rw [ec]; exact a4, N, t, 2 - (d + 1), e1, [], a3, a6, a7, by rw [ec]; exact a5, by rw [en]; exact hz, by omega, Seg_c _ _ _ _ _ (fun w w1 w2 => if_neg (by omega)) a8, Seg_0, (List.append_nil _).symm⟩))
/-- the items of a repeated body -/
theorem per_rp {e0 e1 : List zT} {t j : Nat} (h : e1.length + j < e1.length * t) : nth (e0 ++ rpN e1 t) (e0.length + (e1.length + j)) = nth (e0 ++ rpN e1 t) (e0.length + j) := by
  rw [nth_r (by omega), nth_r (by omega), show e0.length + (e1.length + j) - e0.length = e1.length + j by omega, show e0.length + j - e0.length = j by omega]
  exact rpN_per t j (by rw [Nat.mul_comm]; exact h)
theorem nth_rp {e0 e1 : List zT} {t j : Nat} (t1 : 1 ≤ t) (h : j < e0.length + e1.length) : nth (e0 ++ rpN e1 t) j = nth (e0 ++ e1) j := by
  by_cases c : j < e0.length
  · rw [nth_l c, nth_l c]
  · rw [nth_r (by omega), nth_r (by omega)]
    obtain ⟨t, rfl⟩ : ∃ k, t = k + 1 := ⟨t - 1, by omega⟩
    exact nth_l (by omega)
end HIR

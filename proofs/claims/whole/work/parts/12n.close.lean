/-! CLOSING A REPEAT; STRETCHES OF A PROGRAM -/
section HIN
variable {C C1 : zC} {n p q k v x i j : Int}
theorem t_close {I : zI} {g : Nat → zT} {t b L0 : Nat} {d : Int} (t1 : 1 ≤ t) (t2 : t ≤ 20) (d1 : 0 ≤ d) (d2 : d < 2) (e6 : sF C 6 = hI (d + 1)) (e7 : sA C 7 d.toNat = hI (m40 L0)) (e8 : sA C 8 d.toNat = hI t) (h : hP C (L0 + b) g) (per : ∀ j, b + j < b * t → g (L0 + (b + j)) = g (L0 + j)) :
    ∃ C2, fS_closeRepeat I C = fS_closeRepeat_j97 I C2 ∧ hP C2 (L0 + b * t) g ∧ sF C2 6 = hI d ∧ sF C2 0 = sF C 0 ∧ sA C2 7 = sA C 7 ∧ sA C2 8 = sA C 8 := by
  have bt : b ≤ b * t := Nat.le_mul_of_pos_right b t1
  have s6 : sF (wsF C 6 (hI d)) 6 = hI d := sF_same
  have s1 : sF (wsF C 6 (hI d)) 1 = hI (m40 (L0 + b)) := by rw [sF_ne (by decide)]; exact h.1
  have h' : hP (wsF C 6 (hI d)) (L0 + b) g := hP_F (by decide) h
  have m1 := m40_le (n := L0 + b)
  have m2 := m40_le (n := L0)
  unfold fS_closeRepeat
  rw [e6, show (1 : Int32) = hI 1 from rfl, hI_sub, show d + 1 - 1 = d by omega, bnd_s, s6, sA_wF, rd_hI (by omega) (by omega) (by omega), e7, bnd_s, s1, hI_sub]
  by_cases c : L0 + b < 40
  · have e1 : m40 (L0 + b) = L0 + b := if_pos c
    have e2 : m40 L0 = L0 := if_pos (by omega)
    rw [e1, e2, show ((L0 + b : Nat) : Int) - (L0 : Int) = ((b : Nat) : Int) by omega]
    have hbt : b * t ≤ 800 := Nat.mul_le_mul (show b ≤ 40 by omega) t2
    obtain ⟨C2, r1, r2, r3⟩ := g_again (I := I) (C := wsF C 6 (hI d)) (g := g) (t := t) (b := b) (L0 := L0) t2 c per d1 d2 s6 e8 (b * t - b) 0 (wsF C 6 (hI d)) fu (by omega) (by unfold fu; omega) h' ⟨fun _ _ => rfl, fun _ _ => rfl⟩
    refine ⟨C2, r1, r2, ?_, ?_, r3.2 7 (by omega), r3.2 8 (by omega)⟩
    · rw [r3.1 6 (by decide)]; exact s6
    · rw [r3.1 0 (by decide)]; exact sF_ne (by decide)
  · have e1 : m40 (L0 + b) = 40 := if_neg c
    refine ⟨wsF C 6 (hI d), it_ex2 (n := 999999) (s := (wsF C 6 (hI d), hI ((m40 (L0 + b) : Nat) - (m40 L0 : Nat) : Int))) (b := fun s => fS_closeRepeat_b27 I (hI ((m40 (L0 + b) : Nat) - (m40 L0 : Nat) : Int)) s.1 s.2) ?_, hP_40 h' (by omega) (by omega), s6, sF_ne (by decide), rfl, rfl⟩
    show fS_closeRepeat_b27 I _ (wsF C 6 (hI d)) _ = _
    unfold fS_closeRepeat_b27
    rw [s6, sA_wF, rd_hI (by omega) (by omega) (by omega), e8, bnd_s, s1, e1, show (40 : Int32) = hI 40 from rfl, ilt (by omega) (by omega) (by omega) (by omega)]
    split <;> rfl
/-- the stretch [lo, hi) of a program, at most l repeats deep, unrolls to e -/
def Seg (pr : Int → zT) : Nat → Nat → Int → Int → List zT → Prop
  | 0, _, lo, hi, e => lo = hi ∧ e = []
  | m + 1, l, lo, hi, e => (lo = hi ∧ e = []) ∨ ((0 ≤ (pr lo).1 ∧ (pr lo).1 ≤ 5) ∧ ∃ e', e = pr lo :: e' ∧ Seg pr m l (lo + 1) hi e') ∨
    ((pr lo).1 = 6 ∧ ∃ (c : Int) (t l' : Nat) (e1 e2 : List zT), lo < c ∧ 1 ≤ t ∧ t ≤ 20 ∧ (pr lo).2.1 = t ∧ (pr c).1 = 7 ∧ l = l' + 1 ∧ Seg pr m l' (lo + 1) c e1 ∧ Seg pr m l (c + 1) hi e2 ∧ e = rpN e1 t ++ e2)
theorem Seg_0 {pr : Int → zT} {m l : Nat} : Seg pr m l k k [] := by
  cases m with
  | zero => exact ⟨rfl, rfl⟩
  | succ m => exact Or.inl ⟨rfl, rfl⟩
theorem Seg_up {pr : Int → zT} : ∀ (m m' l : Nat) (lo hi : Int) (e : List zT), m ≤ m' → Seg pr m l lo hi e → Seg pr m' l lo hi e := by
  intro m
  induction m with
  | zero =>
    intro m' l lo hi e h1 ⟨h2, h3⟩
    subst h2 h3
    exact Seg_0
  | succ m ih =>
    intro m' l lo hi e h1 h2
    obtain ⟨m', rfl⟩ : ∃ k, m' = k + 1 := ⟨m' - 1, by omega⟩
    rcases h2 with h2 | ⟨h2, e', h3, h4⟩ | ⟨h2, c, t, l', e1, e2, k1, k2, k3, k4, k5, kl, k6, k7, k8⟩
    · exact Or.inl h2
    · exact Or.inr (Or.inl ⟨h2, e', h3, ih m' _ _ _ _ (by omega) h4⟩)
    · exact Or.inr (Or.inr ⟨h2, c, t, l', e1, e2, k1, k2, k3, k4, k5, kl, ih m' _ _ _ _ (by omega) k6, ih m' _ _ _ _ (by omega) k7, k8⟩)
theorem Seg_le {pr : Int → zT} : ∀ (m l : Nat) (lo hi : Int) (e : List zT), Seg pr m l lo hi e → lo ≤ hi := by
  intro m
  induction m with
  | zero =>
    intro l lo hi e ⟨h2, h3⟩
    omega
  | succ m ih =>
    intro l lo hi e h2
    rcases h2 with h2 | ⟨h2, e', h3, h4⟩ | ⟨h2, c, t, l', e1, e2, k1, k2, k3, k4, k5, kl, k6, k7, k8⟩
    · omega
    · have := ih _ _ _ _ h4; omega
    · have := ih _ _ _ _ k6
      have := ih _ _ _ _ k7
      omega
/-- stretches end to end -/
theorem Seg_app {pr : Int → zT} : ∀ (m m' l : Nat) (lo mi hi : Int) (e f : List zT), Seg pr m l lo mi e → Seg pr m' l mi hi f → Seg pr (m + m') l lo hi (e ++ f) := by
  intro m
  induction m with
  | zero =>
    intro m' l lo mi hi e f ⟨h2, h3⟩ h4
    subst h2 h3
    exact Seg_up m' _ _ _ _ _ (by omega) h4
  | succ m ih =>
    intro m' l lo mi hi e f h2 h4
    rcases h2 with ⟨h2, h3⟩ | ⟨h2, e', h3, h5⟩ | ⟨h2, c, t, l', e1, e2, k1, k2, k3, k4, k5, kl, k6, k7, k8⟩
    · subst h2 h3
      exact Seg_up m' _ _ _ _ _ (by omega) h4
    · subst h3
      rw [show m + 1 + m' = (m + m') + 1 by omega]
      exact Or.inr (Or.inl ⟨h2, e' ++ f, rfl, ih m' _ _ _ _ _ _ h5 h4⟩)
    · subst k8
      rw [show m + 1 + m' = (m + m') + 1 by omega, List.append_assoc]
      exact Or.inr (Or.inr ⟨h2, c, t, l', e1, e2 ++ f, k1, k2, k3, k4, k5, kl, Seg_up m _ _ _ _ _ (by omega) k6, ih m' _ _ _ _ _ _ k7 h4, rfl⟩)
/-- a program changed outside a stretch -/
theorem Seg_c {pr pr' : Int → zT} : ∀ (m l : Nat) (lo hi : Int) (e : List zT), (∀ w, lo ≤ w → w < hi → pr' w = pr w) → Seg pr m l lo hi e → Seg pr' m l lo hi e := by
  intro m
  induction m with
  | zero => intro l lo hi e _ h; exact h
  | succ m ih =>
    intro l lo hi e hc h
    rcases h with h2 | ⟨h2, e', h3, h5⟩ | ⟨h2, c, t, l', e1, e2, k1, k2, k3, k4, k5, kl, k6, k7, k8⟩
    · exact Or.inl h2
    · have hl := Seg_le _ _ _ _ _ h5
      have e0 := hc lo (by omega) (by omega)
      refine Or.inr (Or.inl ⟨by rw [e0]; exact h2, e', by rw [e0]; exact h3, ih _ _ _ _ (fun w w1 w2 => hc w (by omega) w2) h5⟩)
    · have l1 := Seg_le _ _ _ _ _ k6
      have l2 := Seg_le _ _ _ _ _ k7
      have e0 := hc lo (by omega) (by omega)
      have e7 := hc c (by omega) (by omega)
      exact Or.inr (Or.inr ⟨by rw [e0]; exact h2, c, t, l', e1, e2, k1, k2, k3, by rw [e0]; exact k4, by rw [e7]; exact k5, kl, ih _ _ _ _ (fun w w1 w2 => hc w (by omega) (by omega)) k6, ih _ _ _ _ (fun w w1 w2 => hc w (by omega) w2) k7, k8⟩)
end HIN

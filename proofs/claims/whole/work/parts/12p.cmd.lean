/-! A COMMAND OF A SCRIPT -/
section HIP
variable {C C1 : zC} {M M1 M2 : zM} {I I1 I2 : zI} {n p p0 q k v x N w d : Int} {pr : Int → zT}
def hPr (M : zM) (N : Int) (pr : Int → zT) : Prop := ∀ k : Int, 0 ≤ k → k < N → (0 ≤ (pr k).1 ∧ (pr k).1 ≤ 7) ∧ mA M 254 k.toNat = hI (pr k).1 ∧ ((pr k).1 ≤ 6 → mA M 255 k.toNat = hI (pr k).2.1) ∧ ((pr k).1 ≤ 3 → mA M 256 k.toNat = hI (pr k).2.2.1) ∧ ((pr k).1 = 3 → mA M 257 k.toNat = hI (pr k).2.2.2) ∧ ((pr k).1 ≤ 5 → (0 ≤ (pr k).2.1 ∧ (pr k).2.1 ≤ 9999) ∧ (0 ≤ (pr k).2.2.1 ∧ (pr k).2.2.1 ≤ 9999) ∧ (0 ≤ (pr k).2.2.2 ∧ (pr k).2.2.2 ≤ 9999))
def ext (pr : Int → zT) (N : Int) (it : zT) : Int → zT := fun w => if w = N then it else pr w
def fSs (M M1 : zM) : Prop := (∀ k, k < 4 ∨ (9 < k ∧ k < 26) ∨ 28 < k → mF M1 k = mF M k) ∧ mB M1 = mB M ∧ ∀ a, a < 254 ∨ 257 < a → mA M1 a = mA M a
theorem fSs_tr (h1 : fSs M M1) (h2 : fSs M1 M2) : fSs M M2 := ⟨fun k hk => (h2.1 k hk).trans (h1.1 k hk), h2.2.1.trans h1.2.1, fun a ha => (h2.2.2 a ha).trans (h1.2.2 a ha)⟩
theorem fSs_rf : fSs M M := ⟨fun _ _ => rfl, rfl, fun _ _ => rfl⟩
theorem fSs_go (h : fGo M M1) : fSs M M1 := ⟨fun k hk => h.1 k (by omega), h.2.1, fun a _ => by rw [h.2.2]⟩
theorem fSs_Q (h : fQ N M M1) : fSs M M1 := ⟨fun k hk => h.1 k (by omega), h.2.1, fun a ha => h.2.2.1 a (by omega) (by omega) (by omega)⟩
theorem fSs_F {a : Nat} {v : Int32} (h1 : 26 ≤ a) (h2 : a ≤ 28) : fSs M (wmF M a v) := ⟨fun k hk => mF_ne (by omega), rfl, fun _ _ => rfl⟩
theorem fSs_A {a : Nat} {f : Nat → Int32} (h1 : 254 ≤ a) (h2 : a ≤ 257) : fSs M (wmA M a f) := ⟨fun k hk => rfl, rfl, fun b hb => mA_ne (by omega)⟩
theorem t_kind (h : hAt n p I M) : (∃ κ : Int, 0 ≤ κ ∧ κ ≤ 6 ∧ fS_kindOf (iN I) = hI (κ + 1) ∧ fM_commandHere M = hI κ ∧ iF I 4 = hI 1) ∨ (fS_kindOf (iN I) = hI 0 ∧ fM_commandHere M = hI (-1)) := by
  unfold fS_kindOf fM_commandHere
  rcases t_kw h [8, 5, 13] (c8 := 6841709) (c5 := 8365) ⟨by decide, by decide, by decide⟩ rfl rfl with ⟨a, b⟩ | ⟨a, b⟩
  · rw [if_pos a, b, if_pos rfl]
    exact Or.inl ⟨0, by omega, by omega, rfl, rfl, kw_kind h b⟩
  rw [if_neg a, b, if_neg Bool.false_ne_true]
  rcases t_kw h [19, 5, 23] (c8 := 7562615) (c5 := 19639) ⟨by decide, by decide, by decide⟩ rfl rfl with ⟨a, b⟩ | ⟨a, b⟩
  · rw [if_pos a, b, if_pos rfl]
    exact Or.inl ⟨1, by omega, by omega, rfl, rfl, kw_kind h b⟩
  rw [if_neg a, b, if_neg Bool.false_ne_true]
  rcases t_kw h [19, 20, 5, 16] (c8 := 1937007984) (c5 := 643248) ⟨by decide, by decide, by decide⟩ rfl rfl with ⟨a, b⟩ | ⟨a, b⟩
  · rw [if_pos a, b, if_pos rfl]
    exact Or.inl ⟨2, by omega, by omega, rfl, rfl, kw_kind h b⟩
  rw [if_neg a, b, if_neg Bool.false_ne_true]
  rcases t_kw h [23, 1, 12, 11] (c8 := 2002873451) (c5 := 755083) ⟨by decide, by decide, by decide⟩ rfl rfl with ⟨a, b⟩ | ⟨a, b⟩
  · rw [if_pos a, b, if_pos rfl]
    exact Or.inl ⟨3, by omega, by omega, rfl, rfl, kw_kind h b⟩
  rw [if_neg a, b, if_neg Bool.false_ne_true]
  rcases t_kw h [18, 9, 16] (c8 := 7498096) (c5 := 18736) ⟨by decide, by decide, by decide⟩ rfl rfl with ⟨a, b⟩ | ⟨a, b⟩
  · rw [if_pos a, b, if_pos rfl]
    exact Or.inl ⟨4, by omega, by omega, rfl, rfl, kw_kind h b⟩
  rw [if_neg a, b, if_neg Bool.false_ne_true]
  rcases t_kw h [16, 1, 19, 19] (c8 := 1885434739) (c5 := 525939) ⟨by decide, by decide, by decide⟩ rfl rfl with ⟨a, b⟩ | ⟨a, b⟩
  · rw [if_pos a, b, if_pos rfl]
    exact Or.inl ⟨5, by omega, by omega, rfl, rfl, kw_kind h b⟩
  rw [if_neg a, b, if_neg Bool.false_ne_true]
  rcases t_kw h [18, 5, 16, 5, 1, 20] (c8 := 125780002955636) (c5 := 609752116) ⟨by decide, by decide, by decide⟩ rfl rfl with ⟨a, b⟩ | ⟨a, b⟩
  · rw [if_pos a, b, if_pos rfl]
    exact Or.inl ⟨6, by omega, by omega, rfl, rfl, kw_kind h b⟩
  rw [if_neg a, b, if_neg Bool.false_ne_true]
  exact Or.inr ⟨rfl, rfl⟩
/-- a command with its end sign, in the reference -/
def cmdS (M : zM) : Option zM := bnd (fM_command M) fun M18 => if (mF M18 28) = (mF M 28) then fM_mustSign M18 59 else some M18
/-- a command refused at its word -/
theorem cmd_bad {c : Int} (h : hAt n p I M) (hk : iF I 4 = hI 4 → c = 1) (c1 : 0 < c) (c5 : c ≤ 5) (hm : ∀ M1, fM_wrong M (hI c) = some M1 → hEr I M → True) (e : ∀ M1 I1, fM_wrong M (hI c) = some M1 → hEr I1 M1 → mF M1 28 = mF M 28 → fM_command M = some M1) : ∃ I1 M1, fI_fail I (hI c) = some (false, I1) ∧ cmdS M = some M1 ∧ hEr I1 M1 ∧ fSs M M1 := by
  obtain ⟨I1, M1, k1, k2, k3, k4⟩ := t_fail h c1 c5 hk
  have e28 := k4.1 28 (by omega)
  refine ⟨I1, M1, k1, ?_, k3, fSs_go k4⟩
  unfold cmdS
  rw [e M1 I1 k2 k3 e28, bnd_s, if_pos e28]
  exact b_sign (er_good k3)
theorem wr_no {a : Int32} (h : hEr I M) : fM_wrong M a = some M := by
  obtain ⟨c, c1, c2, c3, -⟩ := h
  unfold fM_wrong
  rw [c3, show (0 : Int32) = hI 0 from rfl, ilt (by omega) (by omega) (by omega) (by omega), if_pos (by omega)]
end HIP

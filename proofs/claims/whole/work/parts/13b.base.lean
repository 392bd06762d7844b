/-! THE LAW'S CALLS: what they need -/
section HJB
variable {S : Nat} {xs : Nat → Int32} {I I1 : zI} {C C1 : zC} {Y Y1 : Nat → Int32} {Γ Γ1 : Nat → zG} {D D1 : zD} {O O1 : Nat → Int32} {M M1 : zM} {ou ou1 : Nat → Int64} {od od1 : Nat → UInt64} {j j1 : Nat} {a5 : Int32} {B x : Int}
abbrev zLs := zI × zC × (Nat → Int32) × (Nat → zG) × zD × (Nat → Int32) × zM × (Nat → Int64) × (Nat → UInt64) × Nat × Int32
abbrev zLr := Bool × zI × zC × (Nat → Int32) × (Nat → zG) × zD × (Nat → Int32) × zM × (Nat → Int64) × (Nat → UInt64) × Nat
/-- a call went alike on both sides -/
def LN (B : Int) (a5 : Int32) (j : Nat) (o : Option (zLs ⊕ zLr)) : Prop := ∃ I1 C1 Y1 Γ1 D1 O1 M1 ou1 od1 j1, o = some (.inl (I1, C1, Y1, Γ1, D1, O1, M1, ou1, od1, j1, a5 + 6)) ∧ hS (B + 50000) I1 Y1 Γ1 D1 O1 M1 ∧ j1 ≤ j + 1
/-- the five numbers behind the call's own -/
def RD5 (S : Nat) (xs : Nat → Int32) (a5 : Int32) : Prop := ∃ x y z u w : Int, (-2147483648 ≤ x ∧ x < 2147483648) ∧ (-2147483648 ≤ y ∧ y < 2147483648) ∧ (-2147483648 ≤ z ∧ z < 2147483648) ∧ rd S xs (a5 + 1) = some (hI x) ∧ rd S xs (a5 + 2) = some (hI y) ∧ rd S xs (a5 + 3) = some (hI z) ∧ rd S xs (a5 + 4) = some (hI u) ∧ rd S xs (a5 + 5) = some (hI w)
theorem LN_i {o : Option (zLs ⊕ zLr)} (h : o = some (.inl (I1, C1, Y1, Γ1, D1, O1, M1, ou1, od1, j1, a5 + 6))) (hs : hS (B + 50000) I1 Y1 Γ1 D1 O1 M1) (hj : j1 ≤ j + 1) : LN B a5 j o := ⟨I1, C1, Y1, Γ1, D1, O1, M1, ou1, od1, j1, h, hs, hj⟩
theorem bnd6_s {α0 α1 α2 α3 α4 α5 γ : Type} {a : α0} {b : α1} {c : α2} {d : α3} {e : α4} {f : α5} {k : α0 → α1 → α2 → α3 → α4 → α5 → Option γ} : bnd6 (some (a, b, c, d, e, f)) k = k a b c d e f := rfl
theorem bnd7_s {α0 α1 α2 α3 α4 α5 α6 γ : Type} {a : α0} {b : α1} {c : α2} {d : α3} {e : α4} {f : α5} {g : α6} {k : α0 → α1 → α2 → α3 → α4 → α5 → α6 → Option γ} : bnd7 (some (a, b, c, d, e, f, g)) k = k a b c d e f g := rfl
theorem th_w {c : Int32} : fM_thrown (wmF M 0 c) = c := mF_same
theorem up_0 {v : Int64} : vp_updL ou 0 v 0 = v := if_pos rfl
theorem upd_0 {v : UInt64} : vf_upd od 0 v 0 = v := if_pos rfl
theorem c10 : ((1 : Int32) = 0) = False := eq_false (by decide)
theorem c20 : ((2 : Int32) = 0) = False := eq_false (by decide)
theorem c30 : ((3 : Int32) = 0) = False := eq_false (by decide)
theorem sXX : (eX = "java/lang/IndexOutOfBoundsException") = True := eq_true rfl
theorem sXA : (eX = "java/lang/IllegalArgumentException") = False := eq_false (by decide)
theorem sXS : (eX = "java/lang/IllegalStateException") = False := eq_false (by decide)
theorem sAX : (eA = "java/lang/IndexOutOfBoundsException") = False := eq_false (by decide)
theorem sAA : (eA = "java/lang/IllegalArgumentException") = True := eq_true rfl
theorem sAS : (eA = "java/lang/IllegalStateException") = False := eq_false (by decide)
theorem sSX : (eS = "java/lang/IndexOutOfBoundsException") = False := eq_false (by decide)
theorem sSA : (eS = "java/lang/IllegalArgumentException") = False := eq_false (by decide)
theorem sSS : (eS = "java/lang/IllegalStateException") = True := eq_true rfl
theorem hS_th {c : Int32} (hs : hS B I Y Γ D O M) : hS (B + 50000) I Y Γ D O (wmF M 0 c) := hS_le (by omega) (hS_0 hs)
theorem o_print (hs : hS B I Y Γ D O M) (x1 : -2147483648 ≤ x) (x2 : x < 2147483648) : (∃ p D1 O1 M1, fX_printBand Γ D O (hI x) = some (.inl p, D1, O1) ∧ fM_printBand M (hI x) = some (p, M1) ∧ mF M1 0 = 0 ∧ hS B I Y Γ D1 O1 M1) ∨ (fX_printBand Γ D O (hI x) = some (.inr eA, D, O) ∧ fM_printBand M (hI x) = some (hI 0, wmF M 0 1)) := by
  rcases t_print (D := D) (O := O) hs.1 x1 x2 with ⟨D1, O1, M1, e1, e2, e3, e4, e5, e6, e7, e8, e9⟩ | h
  · refine Or.inl ⟨hI 37, D1, O1, M1, e1, e2, e3, ?_⟩
    obtain ⟨h1, ⟨u, t, a1, a2, a3, a4, b1, b2, b3, b4⟩, h3, hin, -⟩ := hs
    have ehm : hm M1 = hm M := by unfold hm; rw [e9 249 (by decide)]
    refine ⟨by rw [ehm]; exact h1, ⟨u, t, a1, a2, a3, a4, b1, b2, by rw [e6 18 (by decide) (by decide)]; exact b3, fun i i1 i2 => ?_⟩, ⟨?_, fun z => ?_⟩, hIn_c (I1 := I) (e6 2 (by decide) (by decide)) (e6 10 (by decide) (by decide)) (e6 11 (by decide) (by decide)) (e9 248 (by decide)) hin, e5⟩
    · have := b4 i i1 i2
      unfold hrow at this ⊢
      rw [e9 253 (by decide)]; exact this
    · rw [e4, e8]; exact h3.1
    · rw [e8] at z
      rw [e9 250 (by decide)]; exact h3.2 z
  · exact Or.inr h
end HJB

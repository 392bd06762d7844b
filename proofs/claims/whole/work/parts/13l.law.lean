/-! THE LAW: all its calls -/
section HJL
variable {S : Nat} {xs : Nat → Int32} {I : zI} {C : zC} {Y : Nat → Int32} {Γ : Nat → zG} {D : zD} {O : Nat → Int32} {M : zM} {ou : Nat → Int64} {od : Nat → UInt64} {j : Nat} {a5 : Int32} {B : Int}
theorem LN_ite {c : Prop} [Decidable c] {o1 o2 : Option (zLs ⊕ zLr)} (h1 : LN B a5 j o1) (h2 : LN B a5 j o2) : LN B a5 j (if c then o1 else o2) := by
  split
  · exact h1
  · exact h2
theorem l_b28 {v : Int32} (hs : hS B I Y Γ D O M) (hB : B < 700000000) (hr : RD5 S xs a5) (hv : rd S xs a5 = some v) (hn : ¬ (Int32.ofNat S) - 6 < a5) : LN B a5 j (fw_law_b28 S xs I C Y Γ D O M ou od j a5) := by
  unfold fw_law_b28
  rw [if_neg hn, hv, bnd_s]
  refine LN_ite (lj288 hs hB hr) ?_
  refine LN_ite (lj392 hs hB hr) ?_
  refine LN_ite (lj448 hs hB hr) ?_
  refine LN_ite (lj492 hs hB hr) ?_
  refine LN_ite (lj536 hs hB hr) ?_
  refine LN_ite (lj549 hs hB hr) ?_
  refine LN_ite (lj562 hs hB hr) ?_
  refine LN_ite (lj575 hs hB hr) ?_
  refine LN_ite (lj631 hs hB hr) ?_
  refine LN_ite (lj687 hs hB hr) ?_
  refine LN_ite (lj743 hs hB hr) ?_
  refine LN_ite (lj799 hs hB hr) ?_
  refine LN_ite (lj855 hs hB hr) ?_
  refine LN_ite (lj868 hs hB hr) ?_
  refine LN_ite (lj881 hs hB hr) ?_
  refine LN_ite (lj937 hs hB hr) ?_
  refine LN_ite (lj1005 hs hB hr) ?_
  refine LN_ite (lj1073 hs hB hr) ?_
  refine LN_ite (lj1141 hs hB hr) ?_
  refine LN_ite (lj1154 hs hB hr) ?_
  refine LN_ite (lj1167 hs hB hr) ?_
  refine LN_ite (lj1235 hs hB hr) ?_
  refine LN_ite (lj1248 hs hB hr) ?_
  refine LN_ite (lj1311 hs hB hr) ?_
  refine LN_ite (lj1367 hs hB hr) ?_
  refine LN_ite (lj1423 hs hB hr) ?_
  refine LN_ite (lj1479 hs hB hr) ?_
  refine LN_ite (lj1535 hs hB hr) ?_
  refine LN_ite (lj1591 hs hB hr) ?_
  refine LN_ite (lj1604 hs hB hr) ?_
  refine LN_ite (lj1617 hs hB hr) ?_
  refine LN_ite (lj1673 hs hB hr) ?_
  refine LN_ite (lj1729 hs hB hr) ?_
  refine LN_ite (lj1785 hs hB hr) ?_
  refine LN_ite (lj1848 hs hB hr) ?_
  refine LN_ite (lj1916 hs hB hr) ?_
  refine LN_ite (lj1984 hs hB hr) ?_
  refine LN_ite (lj2052 hs hB hr) ?_
  refine LN_ite (lj2120 hs hB hr) ?_
  refine LN_ite (lj2176 hs hB hr) ?_
  refine LN_ite (lj2244 hs hB hr) ?_
  refine LN_ite (lj2257 hs hB hr) ?_
  refine LN_ite (lj2298 hs hB hr) ?_
  refine LN_ite (lj2376 hs hB hr) ?_
  refine LN_ite (lj2444 hs hB hr) ?_
  refine LN_ite (lj2512 hs hB hr) ?_
  refine LN_ite (lj2580 hs hB hr) ?_
  refine LN_ite (lj2648 hs hB hr) ?_
  refine LN_ite (lj2716 hs hB hr) ?_
  refine LN_ite (lj2772 hs hB hr) ?_
  refine LN_ite (lj2840 hs hB hr) ?_
  refine LN_ite (lj2920 hs hB hr) ?_
  refine LN_ite (lj2976 hs hB hr) ?_
  refine LN_ite (lj3020 hs hB hr) ?_
  refine LN_ite (lj3076 hs hB hr) ?_
  refine LN_ite (lj3132 hs hB hr) ?_
  refine LN_ite (lj3145 hs hB hr) ?_
  exact LN_i rfl (hS_le (by omega) hs) (by omega)
theorem whole_law (hL : S ≤ 3072) (hs : hS B I Y Γ D O M) (hB : B ≤ 1000000) : ∃ X, fw_law S xs I C Y Γ D O M ou od j = some X ∧ X.1 = true ∧ X.2.2.2.2.2.2.2.2.2.2 ≤ j + 512 := by
  have eS : (Int32.ofNat S) - 6 = hI ((S : Int) - 6) := by
    rw [show Int32.ofNat S = hI S from (Int32.ofInt_eq_ofNat (n := S)).symm, show (6 : Int32) = hI 6 from rfl, hI_sub]
  unfold fw_law
  refine it_one 512 (fun (i : Nat) (s : zLs) => ∃ I1 C1 Y1 Γ1 D1 O1 M1 ou1 od1 j1, s = (I1, C1, Y1, Γ1, D1, O1, M1, ou1, od1, j1, hI (6 * (i : Int))) ∧ hS (B + 50000 * i) I1 Y1 Γ1 D1 O1 M1 ∧ j1 ≤ j + i) (fun X : zLr => X.1 = true ∧ X.2.2.2.2.2.2.2.2.2.2 ≤ j + 512) (by omega) ⟨I, C, Y, Γ, D, O, M, ou, od, j, rfl, hS_le (by omega) hs, by omega⟩ ?_
  rintro i s hi ⟨I1, C1, Y1, Γ1, D1, O1, M1, ou1, od1, j1, rfl, h1, h2⟩
  by_cases c : (S : Int) - 6 < 6 * (i : Int)
  · refine Or.inr ⟨(true, I1, C1, Y1, Γ1, D1, O1, M1, ou1, od1, j1), ?_, rfl, ?_⟩
    · show fw_law_b28 S xs I1 C1 Y1 Γ1 D1 O1 M1 ou1 od1 j1 (hI (6 * (i : Int))) = _
      unfold fw_law_b28
      rw [eS, ilt (by omega) (by omega) (by omega) (by omega), if_pos c]
    · show j1 ≤ j + 512
      omega
  · have rdv : ∀ k : Int, 0 ≤ k → k < 6 → ∃ x : Int, (-2147483648 ≤ x ∧ x < 2147483648) ∧ rd S xs (hI (6 * (i : Int) + k)) = some (hI x) := fun k k0 k6 => ⟨(xs (6 * (i : Int) + k).toNat).toInt, ⟨Int32.le_toInt _, Int32.toInt_lt _⟩, by rw [rd_hI (by omega) (by omega) (by omega), hI_of]⟩
    obtain ⟨v, -, v1⟩ := rdv 0 (by omega) (by omega)
    obtain ⟨x, hx, x1⟩ := rdv 1 (by omega) (by omega)
    obtain ⟨y, hy, y1⟩ := rdv 2 (by omega) (by omega)
    obtain ⟨z, hz, z1⟩ := rdv 3 (by omega) (by omega)
    obtain ⟨u, -, u1⟩ := rdv 4 (by omega) (by omega)
    obtain ⟨w, -, w1⟩ := rdv 5 (by omega) (by omega)
    rw [show 6 * (i : Int) + 0 = 6 * (i : Int) by omega] at v1
    have e1 : hI (6 * (i : Int)) + 1 = hI (6 * (i : Int) + 1) := hI_add (b := 1)
    have e2 : hI (6 * (i : Int)) + 2 = hI (6 * (i : Int) + 2) := hI_add (b := 2)
    have e3 : hI (6 * (i : Int)) + 3 = hI (6 * (i : Int) + 3) := hI_add (b := 3)
    have e4 : hI (6 * (i : Int)) + 4 = hI (6 * (i : Int) + 4) := hI_add (b := 4)
    have e5 : hI (6 * (i : Int)) + 5 = hI (6 * (i : Int) + 5) := hI_add (b := 5)
    have e6 : hI (6 * (i : Int)) + 6 = hI (6 * ((i + 1 : Nat) : Int)) := (hI_add (b := 6)).trans (congrArg hI (by omega))
    obtain ⟨I2, C2, Y2, Γ2, D2, O2, M2, ou2, od2, j2, e, hs2, hj⟩ := l_b28 (C := C1) (ou := ou1) (od := od1) (j := j1) (a5 := hI (6 * (i : Int))) (v := hI v) h1 (by omega) ⟨x, y, z, u, w, hx, hy, hz, by rw [e1]; exact x1, by rw [e2]; exact y1, by rw [e3]; exact z1, by rw [e4]; exact u1, by rw [e5]; exact w1⟩ v1 (by rw [eS, hI_lt (by omega) (by omega) (by omega) (by omega)]; exact c)
    refine Or.inl ⟨by omega, _, e, I2, C2, Y2, Γ2, D2, O2, M2, ou2, od2, j2, by rw [e6], hS_le (by omega) hs2, by omega⟩
end HJL

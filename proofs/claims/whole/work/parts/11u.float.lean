/-! MEANS AND SHARES are numbers -/
section HHU
def finD (g : Nat) : Bool := (List.range 1189).all fun s => (zddiv (FP.i2d (hI (s : Int))) (FP.i2d (hI (g : Int)))).isSome
def finF : Bool := (List.range 361).all fun s => match zfdiv (FP.i2f (hI (s : Int))) 1135869952 with | some v => (match zf2d v with | some u => decide (Op.cmpValue (FP.dcmp u u) .l = 0) | none => false) | none => false
theorem finF_t : finF = true := by decide +kernel
theorem finD_2 : finD 2 = true := by decide +kernel
theorem finD_3 : finD 3 = true := by decide +kernel
theorem finD_4 : finD 4 = true := by decide +kernel
theorem finD_5 : finD 5 = true := by decide +kernel
theorem finD_6 : finD 6 = true := by decide +kernel
theorem finD_7 : finD 7 = true := by decide +kernel
theorem finD_8 : finD 8 = true := by decide +kernel
theorem finD_9 : finD 9 = true := by decide +kernel
theorem finD_10 : finD 10 = true := by decide +kernel
theorem finD_11 : finD 11 = true := by decide +kernel
theorem finD_12 : finD 12 = true := by decide +kernel
theorem finD_s {g s : Int} (g1 : 2 ≤ g) (g2 : g ≤ 12) (s1 : 0 ≤ s) (s2 : s ≤ 1188) : ∃ v, zddiv (FP.i2d (hI s)) (FP.i2d (hI g)) = some v := by
  have h : finD g.toNat = true := by
    have : g = 2 ∨ g = 3 ∨ g = 4 ∨ g = 5 ∨ g = 6 ∨ g = 7 ∨ g = 8 ∨ g = 9 ∨ g = 10 ∨ g = 11 ∨ g = 12 := by omega
    rcases this with rfl | rfl | rfl | rfl | rfl | rfl | rfl | rfl | rfl | rfl | rfl
    · exact finD_2
    · exact finD_3
    · exact finD_4
    · exact finD_5
    · exact finD_6
    · exact finD_7
    · exact finD_8
    · exact finD_9
    · exact finD_10
    · exact finD_11
    · exact finD_12
  unfold finD at h
  rw [List.all_eq_true] at h
  have h2 := h s.toNat (List.mem_range.mpr (by omega))
  rw [show ((s.toNat : Nat) : Int) = s by omega, show ((g.toNat : Nat) : Int) = g by omega] at h2
  exact Option.isSome_iff_exists.mp h2
theorem finF_s {s : Int} (s1 : 0 ≤ s) (s2 : s ≤ 360) : ∃ v u, zfdiv (FP.i2f (hI s)) 1135869952 = some v ∧ zf2d v = some u ∧ Op.cmpValue (FP.dcmp u u) .l = 0 := by
  have h := finF_t
  unfold finF at h
  rw [List.all_eq_true] at h
  have h2 := h s.toNat (List.mem_range.mpr (by omega))
  rw [show ((s.toNat : Nat) : Int) = s by omega] at h2
  cases e : zfdiv (FP.i2f (hI s)) 1135869952 with
  | none => rw [e] at h2; exact absurd h2 (by decide)
  | some v =>
    rw [e] at h2
    dsimp only at h2
    cases e2 : zf2d v with
    | none => rw [e2] at h2; exact absurd h2 (by decide)
    | some u =>
      rw [e2] at h2
      exact ⟨v, u, rfl, e2, of_decide_eq_true h2⟩
end HHU

/-! ONE ROW OF THE PLAN, WHICHEVER -/
section HIX
variable {B : Int} {C : zC} {M M1 M2 : zM} {G G1 : zG} {N k : Int} {L j : Nat} {g : Nat → zT} {pr : Int → zT}
theorem x_row (hr : hR G (hm M)) (hv : hV B (hm M)) (hB : B < 900000000) (hp : hP C L g) (hj : j < m40 L) (hpr : hPr M N pr) (k0 : 0 ≤ k) (kN : k < N) (N60 : N ≤ 60) (e : g j = pr k) (i5 : (pr k).1 ≤ 5) : EX B C G M j k := by
  have hm := m40_le (n := L)
  obtain ⟨p2, p3, p4, p5⟩ := hp.2 j hj
  rw [e] at p2 p3 p4 p5
  obtain ⟨⟨i0, -⟩, q4, q5, q6, q7, qb⟩ := hpr k k0 kN
  obtain ⟨⟨ba1, ba2⟩, ⟨bb1, bb2⟩, ⟨bc1, bc2⟩⟩ := qb i5
  have q5' := q5 (by omega)
  have jn : ((j : Nat) : Int).toNat = j := by omega
  have r2 : rd 40 (sA C 2) (hI j) = some (hI ((pr k).1 + 1)) := by rw [rd_hI (by omega) (by omega) (by omega), jn, p2]
  have r3 : rd 40 (sA C 3) (hI j) = some (hI (pr k).2.1) := by rw [rd_hI (by omega) (by omega) (by omega), jn, p3]
  have r4 : rd 40 (sA C 4) (hI j) = some (hI (pr k).2.2.1) := by rw [rd_hI (by omega) (by omega) (by omega), jn, p4]
  have r5 : rd 40 (sA C 5) (hI j) = some (hI (pr k).2.2.2) := by rw [rd_hI (by omega) (by omega) (by omega), jn, p5]
  have m4 : rd 60 (mA M 254) (hI k) = some (hI (pr k).1) := by rw [rd_hI (by omega) (by omega) (by omega), q4]
  have m5 : rd 60 (mA M 255) (hI k) = some (hI (pr k).2.1) := by rw [rd_hI (by omega) (by omega) (by omega), q5']
  have m6 : rd 60 (mA M 256) (hI k) = some (mA M 256 k.toNat) := by rw [rd_hI (by omega) (by omega) (by omega)]
  have m7 : rd 60 (mA M 257) (hI k) = some (mA M 257 k.toNat) := by rw [rd_hI (by omega) (by omega) (by omega)]
  generalize hκ : (pr k).1 = κ at *
  generalize (pr k).2.1 = a at *
  generalize (pr k).2.2.1 = b at *
  generalize (pr k).2.2.2 = c at *
  have cases6 : κ = 0 ∨ κ = 1 ∨ κ = 2 ∨ κ = 3 ∨ κ = 4 ∨ κ = 5 := by omega
  rcases cases6 with rfl | rfl | rfl | rfl | rfl | rfl
  · rw [q6 (by omega)] at m6
    exact x_hem hr hv ba1 ba2 bb1 bb2 r2 r3 r4 r5 m4 m5 m6
  · rw [q6 (by omega)] at m6
    exact x_sew hr hv ba1 ba2 bb1 bb2 r2 r3 r4 r5 m4 m5 m6
  · rw [q6 (by omega)] at m6
    exact x_step hr hv hB ba1 ba2 bb1 bb2 r2 r3 r4 r5 m4 m5 m6
  · rw [q6 (by omega)] at m6
    rw [q7 rfl] at m7
    exact x_walk hr hv ba1 ba2 bb1 bb2 bc1 bc2 r2 r3 r4 r5 m4 m5 m6 m7
  · exact x_rip hr hv ba1 ba2 r2 r3 r4 r5 m4 m5 m6
  · exact x_pass hr hv (by omega) ba1 ba2 r2 r3 r4 r5 m4 m5 m6
end HIX

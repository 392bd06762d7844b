/-! runScript -/
section HJA
variable {C : zC} {M M0 M1 M2 : zM} {I I1 I2 : zI} {B N : Int} {pr : Int → zT} {Y : Nat → Int32} {Γ : Nat → zG} {D : zD} {O : Nat → Int32}
theorem hS_fr (hs : hS B I Y Γ D O M) (f18 : mF M1 18 = mF M 18) (f31 : mF M1 31 = mF M 31) (fB : mB M1 = mB M) (fA : ∀ a, a = 249 ∨ a = 250 ∨ a = 253 ∨ a = 260 → mA M1 a = mA M a) (hin : hIn I1 M1) : hS B I1 Y Γ D O M1 := by
  obtain ⟨h1, hh, h3, -, hou⟩ := hs
  have ehm : hm M1 = hm M := by unfold hm; rw [fA 249 (by omega)]
  refine ⟨by rw [ehm]; exact h1, ?_, ⟨?_, fun z => ?_⟩, hin, hOu_c (M := M) f31 (fA 260 (by omega)) hou⟩
  · obtain ⟨u, t, u1, u2, t1, t2, y0, y1, y18, rows⟩ := hh
    refine ⟨u, t, u1, u2, t1, t2, y0, y1, by rw [f18]; exact y18, fun i i1 i2 => ?_⟩
    have := rows i i1 i2
    unfold hrow at this ⊢
    rw [fA 253 (by omega)]
    exact this
  · rw [fB]; exact h3.1
  · rw [fB] at z
    rw [fA 250 (by omega)]
    exact h3.2 z
theorem hPr_A (h : hPr M N pr) (f : ∀ a, 254 ≤ a → a ≤ 257 → mA M1 a = mA M a) : hPr M1 N pr := by
  intro k k0 k1
  obtain ⟨q3, q4, q5, q6, q7, qb⟩ := h k k0 k1
  rw [f 254 (by omega) (by omega), f 255 (by omega) (by omega), f 256 (by omega) (by omega), f 257 (by omega) (by omega)]
  exact ⟨q3, q4, q5, q6, q7, qb⟩
theorem o_runScript (hs : hS B I Y Γ D O M) (hB : B < 800000000) : ∃ I1 C1 M1,
    (∃ p Y1 Γ1, fX_runScript I C Y Γ = some (.inl p, I1, C1, Y1, Γ1) ∧ fM_runScript M = some (p, M1) ∧ mF M1 0 = 0 ∧ hS (B + 50000) I1 Y1 Γ1 D O M1) ∨
    (fX_runScript I C Y Γ = some (.inr eA, I1, C1, Y, Γ) ∧ fM_runScript M = some (0, M1) ∧ mF M1 0 = 1 ∧ hS (B + 50000) I1 Y Γ D O M1) := by
  obtain ⟨⟨hr, hv, hgo⟩, hh, h3, ⟨⟨n, n1, n2, ni, nm, hb⟩, -, -⟩, hou⟩ := id hs
  have hB0 : 0 ≤ B := by have := hv.1.2.2.2; omega
  obtain ⟨J, M2, s1, s2, s3, s4, s5, s6, s7⟩ := t_begin hb ni nm n1 n2
  have f3 : hfs M2 (wmF (wmF (wmF M2 26 0) 27 0) 28 0) := hfs_F (by omega) (by omega) (hfs_F (by omega) (by omega) (hfs_F (by omega) (by omega) hfs_rf))
  have a3 := ah_fs s3 f3
  have m28 : mF (wmF (wmF (wmF M2 26 0) 27 0) 28 0) 28 = hI 0 := mF_same
  have m27 : mF (wmF (wmF (wmF M2 26 0) 27 0) 28 0) 27 = hI 0 := by rw [mF_ne (by decide)]; exact mF_same
  have m26 : mF (wmF (wmF (wmF M2 26 0) 27 0) 28 0) 26 = hI 0 := by rw [mF_ne (by decide), mF_ne (by decide)]; exact mF_same
  have fM : ∀ k, (k < 2 ∨ (9 < k ∧ k < 26) ∨ 28 < k) → mF (wmF (wmF (wmF M2 26 0) 27 0) 28 0) k = mF M k := fun k hk => by
    rw [f3.1 k (by omega), s5 k (by omega)]
  have f2 : mF (wmF (wmF (wmF M2 26 0) 27 0) 28 0) 2 = hI 0 := by rw [f3.1 2 (by omega)]; exact s4
  have em : fM_runScript M = iter (fun s => fM_runScript_b19 s) fu (wmF (wmF (wmF M2 26 0) 27 0) 28 0) := by
    unfold fM_runScript
    rw [s2, bnd_s, bnd_s, bnd_s, bnd_s]
  have gB : mB (wmF (wmF (wmF M2 26 0) 27 0) 28 0) = mB M := s6
  have gA : mA (wmF (wmF (wmF M2 26 0) 27 0) 28 0) = mA M := s7
  generalize hM3 : wmF (wmF (wmF M2 26 0) 27 0) 28 0 = M3 at *
  have cs0 : sF (wsF (wsF (wsF C 0 0) 1 0) 6 0) 0 = hI 0 := by rw [sF_ne (by decide), sF_ne (by decide)]; exact sF_same
  have cs1 : sF (wsF (wsF (wsF C 0 0) 1 0) 6 0) 1 = hI 0 := by rw [sF_ne (by decide)]; exact sF_same
  have cs6 : sF (wsF (wsF (wsF C 0 0) 1 0) 6 0) 6 = hI 0 := sF_same
  have hsc : hSc (wsF (wsF (wsF C 0 0) 1 0) 6 0) M3 ([] : List zT).length (nth []) 0 0 ((0 : Nat) : Int) (fun _ => (0, 0, 0, 0)) :=
    ⟨⟨cs1, fun j hj => absurd hj (Nat.not_lt_zero j)⟩, cs0, cs6, m26, m27, m28, fun k k0 k1 => by omega, ⟨by omega, by omega⟩, ⟨by omega, by omega⟩, ⟨by omega, by omega⟩⟩
  have key := t_script (n := n) (M0 := M3) 601 0 0 0 0 0 (fun _ => (0, 0, 0, 0)) [] J (wsF (wsF (wsF C 0 0) 1 0) 6 0) M3 fu fu 1 (by omega) (by unfold fu; omega) (by unfold fu; omega) (by omega) (by omega) a3 hsc ⟨0, Seg_0⟩ fSs_rf
  rw [show iter (fun s => fM_closes_b0 s) 1 M3 = some M3 from closes_no (f := 0) (Or.inr (Or.inl m28)), bnd_s, ← em] at key
  obtain ⟨t, I1, C1, M4, r1, r2, r3, r4⟩ := key
  have er : fS_read I C = some (t, I1, C1) := by
    unfold fS_read
    rw [bnd_s, bnd_s, bnd_s, s1, bnd_s]
    exact r1
  have k18 : mF M4 18 = mF M 18 := by rw [r3.1 18 (by omega), fM 18 (by omega)]
  have k31 : mF M4 31 = mF M 31 := by rw [r3.1 31 (by omega), fM 31 (by omega)]
  have k2 : mF M4 2 = hI 0 := by rw [r3.1 2 (by omega), f2]
  have kB : mB M4 = mB M := r3.2.1.trans gB
  have kA : ∀ a, a < 254 ∨ 257 < a → mA M4 a = mA M a := fun a ha => by rw [r3.2.2 a ha, gA]
  have hin : ∀ M9 : zM, mF M9 2 = hI 0 → mF M9 10 = iF I1 8 → mF M9 11 = iF I1 9 → hIn (wiF I1 1 0) M9 := by
    intro M9 h1 h2 h3
    refine ⟨⟨0, by omega, by omega, iF_same, h1, fun k k1 k2 => by omega⟩, ?_, ?_⟩
    · rw [iF_ne (by decide), h2]
    · rw [iF_ne (by decide), h3]
  rcases r4 with ⟨rfl, ⟨d1, d2, d3, d4⟩, N, w, pr, e, hsc1, m, sg⟩ | ⟨rfl, d1⟩
  · obtain ⟨hp, -, -, n26, -, -, hpr, -, ⟨N0, Nw⟩, ⟨w0, w30⟩⟩ := hsc1
    have hin4 : hIn (wiF I1 1 0) (wmF (wmF M4 10 (hI 0)) 11 (mF M4 9)) := by
      refine hin _ ?_ ?_ ?_
      · rw [mF_ne (by decide), mF_ne (by decide)]; exact k2
      · rw [mF_ne (by decide), mF_same, d3]
      · rw [mF_same, d4, d2]
    have hs4 : hS B (wiF I1 1 0) Y Γ D O (wmF (wmF M4 10 (hI 0)) 11 (mF M4 9)) := hS_fr hs (by rw [mF_ne (by decide), mF_ne (by decide)]; exact k18) (by rw [mF_ne (by decide), mF_ne (by decide)]; exact k31) kB (fun a ha => kA a (by omega)) hin4
    have q26 : mF (wmF (wmF M4 10 (hI 0)) 11 (mF M4 9)) 26 = hI N := by rw [mF_ne (by decide), mF_ne (by decide)]; exact n26
    have qpr : hPr (wmF (wmF M4 10 (hI 0)) 11 (mF M4 9)) N pr := hPr_A hpr (fun _ _ _ => rfl)
    have em2 : fM_runScript_j82 M4 = bnd (fM_laysAside (wmF (wmF (wmF M4 10 (hI 0)) 11 (mF M4 9)) 0 0)) fun M11 => bnd2 (fM_doesAll M11) fun v14 M13 => bnd (fM_keeps M13) fun M16 => some (v14, M16) := by
      unfold fM_runScript_j82
      rw [ends_t d1, bnd2_s, if_pos rfl]
    have ehm : hm (wmF (wmF M4 10 (hI 0)) 11 (mF M4 9)) = hm M := by
      show hm M4 = hm M
      unfold hm; rw [kA 249 (by omega)]
    generalize wmF (wmF M4 10 (hI 0)) 11 (mF M4 9) = M5 at *
    obtain ⟨Y1, Γ1, M6, x1, x2, x3, x4, x5, x6, x7, x8, xa, xf, -, fin⟩ := t_done hs4
    obtain ⟨v, G2, M7, y1, y2, y3, y4, y5, y6⟩ := t_doesAll (C := C1) (G := Γ1 10) (M := M6) (N := N) (B := B) (e := e) (m := m) (pr := pr) (by rw [xf 26, mF_ne (by decide)]; exact q26) (by omega) hB0 hB hp (hPr_A qpr (fun a a1 a2 => xa a (by omega))) sg (by rw [x3, x4, ehm]; exact hr) (by rw [x4, ehm]; exact hv)
    have e0 : hm M7 0 = hm M 0 := by rw [y6, x4, ehm]
    obtain ⟨M9, z1, z2, z3⟩ := fin (B + 50000) G2 (wiF I1 1 0) M7 (by omega) ⟨y3, hV_le (by omega) y4, by rw [e0]; exact hgo⟩ (fun k hk _ _ _ => y5.1 k hk) y5.2.2.1 (fun a ha hb => y5.2.2.2 a ha (by omega)) (hIn_c (I1 := wiF I1 1 0) (M := M5) (by rw [y5.1 2 (by decide), xf 2, mF_ne (by decide)]) (by rw [y5.1 10 (by decide), xf 10, mF_ne (by decide)]) (by rw [y5.1 11 (by decide), xf 11, mF_ne (by decide)]) (by rw [y5.2.2.2 248 (by decide) (by omega), xa 248 (by decide)]) hin4)
    refine ⟨wiF I1 1 0, C1, M9, Or.inl ⟨v, Y1, gup Γ1 10 G2, ?_, ?_, ?_, z3⟩⟩
    · unfold fX_runScript
      rw [er, bnd3_s, bnd_s, if_pos rfl, x1, bnd2_s, y1, bnd2_s]
    · rw [r2, em2, x2, bnd_s, y2, bnd2_s, z1, bnd_s]
    · rw [z2, y5.1 0 (by decide), xf 0, mF_same]
  · obtain ⟨c, cc1, cc2, cc3, cc4, cc5⟩ := id d1
    refine ⟨wiF I1 1 0, C1, wmF (wmF (wmF M4 10 (mF M4 8)) 11 (mF M4 9)) 0 1, Or.inr ⟨?_, ?_, mF_same, hS_le (by omega) (hS_0 (hS_fr hs ?_ ?_ kB (fun a ha => kA a (by omega)) (hin _ ?_ ?_ ?_)))⟩⟩
    · unfold fX_runScript
      rw [er, bnd3_s, bnd_s, if_neg Bool.false_ne_true]
      rfl
    · rw [r2]
      unfold fM_runScript_j82
      rw [ends_f d1, bnd2_s, if_neg Bool.false_ne_true]
    · rw [mF_ne (by decide), mF_ne (by decide)]; exact k18
    · rw [mF_ne (by decide), mF_ne (by decide)]; exact k31
    · rw [mF_ne (by decide), mF_ne (by decide)]; exact k2
    · rw [mF_ne (by decide), mF_same, cc4]
    · rw [mF_same, cc5]
end HJA

/-! FEEDING AND CUTTING THE BUFFER; PREDICTIONS -/
section HHY
variable {σ τ : Int → Int} {M M1 M2 : zM} {G Go G1 : zG} {z v w k B B1 b m d f x y : Int} {l : List Int} {I : zI} {Y : Nat → Int32} {Γ : Nat → zG} {D : zD} {O : Nat → Int32}
theorem iF_same {k : Nat} {x : Int32} : iF (wiF I k x) k = x := z1_same
theorem iF_ne {k k' : Nat} {x : Int32} (h : k' ≠ k) : iF (wiF I k x) k' = iF I k' := z1_ne h
theorem iF_wA {k : Nat} {g : Nat → Int32} : iF (wiA I g) k = iF I k := rfl
theorem iF_wN {k : Nat} {x : Int64} : iF (wiN I x) k = iF I k := rfl
theorem iA_wF {k : Nat} {x : Int32} : iA (wiF I k x) = iA I := rfl
theorem iA_wN {x : Int64} : iA (wiN I x) = iA I := rfl
theorem iN_wF {k : Nat} {x : Int32} : iN (wiF I k x) = iN I := rfl
theorem iN_wN {x : Int64} : iN (wiN I x) = x := rfl
/-- the byte at a place of an int -/
def by8 (a : Int32) (s : Nat) : Nat := a.toBitVec.toNat / 2 ^ s % 256
theorem nar_b (x : Int32) : vp_nar .byte x = Int8.toInt32 (Int32.toInt8 x) := rfl
theorem m255 : ∀ i : Nat, i < 32 → (255#32).getLsbD i = decide (i < 8) := by
  intro i hi
  have : ∀ j : Fin 32, (255#32).getLsbD j.val = decide (j.val < 8) := by decide
  exact this ⟨i, hi⟩
theorem by_M (a : Int32) {s : Nat} (hs : s = 24 ∨ s = 16 ∨ s = 8 ∨ s = 0) : (a >>> (hI (s : Int) &&& 31)) &&& 255 = hI ((by8 a s : Nat) : Int) := by
  apply Int32.toBitVec_inj.1
  have e1 : (a >>> (hI (s : Int) &&& 31)).toBitVec = a.toBitVec.sshiftRight s := by
    rcases hs with rfl | rfl | rfl | rfl <;> rfl
  have e2 : (a.toBitVec.sshiftRight s) &&& 255#32 = (a.toBitVec >>> s) &&& 255#32 := by
    apply BitVec.eq_of_getLsbD_eq
    intro i hi
    rw [BitVec.getLsbD_and, BitVec.getLsbD_and, m255 i hi, BitVec.getLsbD_sshiftRight, BitVec.getLsbD_ushiftRight]
    by_cases c : i < 8
    · rw [decide_eq_false (by omega), if_pos (by omega)]; rfl
    · rw [decide_eq_false c, Bool.and_false, Bool.and_false]
  have e3 : (hI ((by8 a s : Nat) : Int)).toBitVec = BitVec.ofNat 32 (by8 a s) := BitVec.ofInt_natCast 32 _
  have e4 : (255 : Int32).toBitVec = 255#32 := rfl
  have e5 : (255#32).toNat = 2 ^ 8 - 1 := rfl
  rw [Int32.toBitVec_and, e1, e4, e2, e3]
  apply BitVec.eq_of_toNat_eq
  rw [BitVec.toNat_and, BitVec.toNat_ushiftRight, e5, Nat.and_two_pow_sub_one_eq_mod, BitVec.toNat_ofNat, Nat.shiftRight_eq_div_pow]
  unfold by8
  omega
theorem by_r (a : Int32) (s : Nat) : by8 a s < 256 := Nat.mod_lt _ (by omega)
theorem by_I (a : Int32) {s : Nat} (hs : s = 24 ∨ s = 16 ∨ s = 8 ∨ s = 0) : vp_nar .byte (Int8.toInt32 (Int32.toInt8 (Int32.toUInt32 a >>> (Int32.toUInt32 (hI (s : Int)) &&& Int32.toUInt32 31)).toInt32)) = hI (sg ((by8 a s : Nat) : Int)) := by
  have hb := by_r a s
  rw [nar_b, Int8.toInt8_toInt32]
  apply Int32.toInt_inj.1
  rw [Int8.toInt_toInt32, hI_v (by unfold sg; split <;> omega) (by unfold sg; split <;> omega)]
  have e1 : ((Int32.toUInt32 a >>> (Int32.toUInt32 (hI (s : Int)) &&& Int32.toUInt32 31)).toInt32).toBitVec = a.toBitVec >>> s := by
    rcases hs with rfl | rfl | rfl | rfl <;> rfl
  have e2 : (Int32.toInt8 (Int32.toUInt32 a >>> (Int32.toUInt32 (hI (s : Int)) &&& Int32.toUInt32 31)).toInt32).toBitVec = (a.toBitVec >>> s).setWidth 8 := by
    rw [Int32.toBitVec_toInt8, e1, BitVec.signExtend_eq_setWidth_of_le _ (by omega)]
  have e3 : ((a.toBitVec >>> s).setWidth 8).toNat = by8 a s := by
    rw [BitVec.toNat_setWidth, BitVec.toNat_ushiftRight, Nat.shiftRight_eq_div_pow]
    rfl
  show (Int32.toInt8 _).toBitVec.toInt = _
  rw [e2, BitVec.toInt_eq_toNat_cond, e3]
  unfold sg
  by_cases c : 2 * by8 a s < 2 ^ 8
  · rw [if_pos c, if_pos (by omega)]
  · rw [if_neg c, if_neg (by omega)]; rfl
theorem t_four {n : Int} {a : Int32} (hb : hBy I M n) (eI : iF I 1 = hI n) (eM : mF M 2 = hI n) (n1 : 0 ≤ n) (n2 : n + 4 ≤ 600) : ∃ I1 M1, fI_append I a = some I1 ∧ fM_four M a = some M1 ∧ hBy I1 M1 (n + 4) ∧ iF I1 1 = hI (n + 4) ∧ mF M1 2 = hI (n + 4) ∧ (∀ k, k ≠ 1 → iF I1 k = iF I k) ∧ (∀ k, k ≠ 2 → mF M1 k = mF M k) ∧ mN M1 = mN M ∧ mB M1 = mB M ∧ ∀ a, a ≠ 248 → mA M1 a = mA M a := by
  have key : ∃ r1 r2, iter (fun s => fI_append_b3 a s.1 s.2) fu (I, hI 24) = some r1 ∧ iter (fun s => fM_four_b3 a s.1 s.2) fu (M, hI 24) = some r2 ∧ hBy r1 r2 (n + 4) ∧ iF r1 1 = hI (n + 4) ∧ mF r2 2 = hI (n + 4) ∧ (∀ k, k ≠ 1 → iF r1 k = iF I k) ∧ (∀ k, k ≠ 2 → mF r2 k = mF M k) ∧ mN r2 = mN M ∧ mB r2 = mB M ∧ ∀ a, a ≠ 248 → mA r2 a = mA M a := by
    refine it_two 4 (fun i s1 s2 => ∃ I1 M1, s1 = (I1, hI (24 - 8 * i)) ∧ s2 = (M1, hI (24 - 8 * i)) ∧ hBy I1 M1 (n + i) ∧ iF I1 1 = hI (n + i) ∧ mF M1 2 = hI (n + i) ∧ (∀ k, k ≠ 1 → iF I1 k = iF I k) ∧ (∀ k, k ≠ 2 → mF M1 k = mF M k) ∧ mN M1 = mN M ∧ mB M1 = mB M ∧ ∀ a, a ≠ 248 → mA M1 a = mA M a) _ (by omega) ⟨I, M, rfl, rfl, by rw [show n + ((0 : Nat) : Int) = n by omega]; exact hb, by rw [show n + ((0 : Nat) : Int) = n by omega]; exact eI, by rw [show n + ((0 : Nat) : Int) = n by omega]; exact eM, fun _ _ => rfl, fun _ _ => rfl, rfl, rfl, fun _ _ => rfl⟩ ?_
    rintro i s1 s2 hi ⟨I1, M1, rfl, rfl, q1, q2, q3, q4, q5, q6, q7, q8⟩
    unfold fI_append_b3 fM_four_b3
    dsimp only
    by_cases c : i < 4
    · have es : (24 - 8 * (i : Int)) = ((24 - 8 * i : Nat) : Int) := by omega
      have h4 : (24 - 8 * i = 24 ∨ 24 - 8 * i = 16 ∨ 24 - 8 * i = 8 ∨ 24 - 8 * i = 0) := by omega
      have hbr := by_r a (24 - 8 * i)
      rw [show (0 : Int32) = hI 0 from rfl, ilt (by omega) (by omega) (by omega) (by omega), ilt (by omega) (by omega) (by omega) (by omega), if_neg (show ¬ (24 - 8 * (i : Int)) < 0 by omega), if_neg (show ¬ (24 - 8 * (i : Int)) < 0 by omega), q2, show (600 : Int32) = hI 600 from rfl, ilt (by omega) (by omega) (by omega) (by omega), if_pos (by omega), wrb_hI (by omega) (by omega) (by omega), es, by_I a h4, q3, wr_hI (by omega) (by omega) (by omega), by_M a h4, bnd_s, bnd_s, bnd_s, bnd_s, bnd_s, bnd_s]
      have eI1 : iF (wiA I1 (upd (iA I1) (n + i).toNat (hI (sg ((by8 a (24 - 8 * i) : Nat) : Int))))) 1 = hI (n + i) := q2
      have eM1 : mF (wmA M1 248 (upd (mA M1 248) (n + i).toNat (hI ((by8 a (24 - 8 * i) : Nat) : Int)))) 2 = hI (n + i) := q3
      rw [eI1, eM1, show (1 : Int32) = hI 1 from rfl, hI_add, show (-8 : Int32) = hI (-8) from rfl, hI_add]
      rw [show ((24 - 8 * i : Nat) : Int) + -8 = 24 - 8 * ((i + 1 : Nat) : Int) by omega]
      refine Or.inl ⟨c, _, _, rfl, rfl, _, _, rfl, rfl, ?_, ?_, ?_, ?_, ?_, ?_, ?_, ?_⟩
      · intro k k1 k2
        show ∃ u : Int, 0 ≤ u ∧ u < 256 ∧ mA (wmA M1 248 _) 248 k.toNat = hI u ∧ upd (iA I1) (n + i).toNat _ k.toNat = hI (sg u)
        rw [mA_same, upd_w, upd_w]
        by_cases e : k = n + i
        · subst e
          rw [if_pos rfl, if_pos rfl]
          exact ⟨_, by omega, by omega, rfl, rfl⟩
        · rw [if_neg (by omega), if_neg (by omega)]
          exact q1 k k1 (by omega)
      · rw [iF_same, show n + (i : Int) + 1 = n + ((i + 1 : Nat) : Int) by omega]
      · rw [mF_same, show n + (i : Int) + 1 = n + ((i + 1 : Nat) : Int) by omega]
      · intro k hk
        rw [iF_ne hk, iF_wA]
        exact q4 k hk
      · intro k hk
        rw [mF_ne hk, mF_wA]
        exact q5 k hk
      · exact q6
      · exact q7
      · intro a ha
        rw [mA_wF, mA_ne ha]
        exact q8 a ha
    · have e4 : (i : Int) = 4 := by omega
      rw [e4] at q1 q2 q3 ⊢
      rw [show (0 : Int32) = hI 0 from rfl, ilt (by omega) (by omega) (by omega) (by omega), ilt (by omega) (by omega) (by omega) (by omega), if_pos (by omega), if_pos (by omega)]
      exact Or.inr ⟨_, _, rfl, rfl, q1, q2, q3, q4, q5, q6, q7, q8⟩
  obtain ⟨r1, r2, q1, q2, rest⟩ := key
  exact ⟨r1, r2, q1, q2, rest⟩
/-- the state when only the buffer and the code change -/
theorem hS_buf {I1 : zI} (hs : hS B I Y Γ D O M) (hin : hIn I1 M1) (f : ∀ k, k = 18 ∨ k = 31 → mF M1 k = mF M k) (fb : mB M1 = mB M) (fa : ∀ a, a ≠ 248 → mA M1 a = mA M a) : hS B I1 Y Γ D O M1 := by
  obtain ⟨h1, ⟨u, t, a1, a2, a3, a4, a5, a6, a7, a8⟩, h3, -, h5⟩ := hs
  refine ⟨?_, ⟨u, t, a1, a2, a3, a4, a5, a6, by rw [f 18 (Or.inl rfl)]; exact a7, fun i i1 i2 => ?_⟩, ⟨?_, ?_⟩, hin, hOu_c (f 31 (Or.inr rfl)) (fa 260 (by decide)) h5⟩
  · unfold hm
    rw [fa 249 (by decide)]; exact h1
  · unfold hrow
    rw [fa 253 (by decide)]; exact a8 i i1 i2
  · rw [fb]; exact h3.1
  · rw [fb, fa 250 (by decide)]; exact h3.2
theorem o_feed {a1 a2 a3 a4 a5 : Int32} (hs : hS B I Y Γ D O M) : (∃ p I1 M1, fX_feed I a1 a2 a3 a4 a5 = some (.inl p, I1) ∧ fM_feed M a1 a2 a3 a4 a5 = some (p, M1) ∧ mF M1 0 = 0 ∧ hS B I1 Y Γ D O M1) ∨ (fX_feed I a1 a2 a3 a4 a5 = some (.inr eS, I) ∧ fM_feed M a1 a2 a3 a4 a5 = some (0, wmF M 0 1)) := by
  have hs0 := hs
  obtain ⟨-, -, -, ⟨⟨n, n1, n2, n3, n4, n5⟩, n6, n7⟩, -⟩ := hs
  unfold fX_feed fM_feed fI_hasRoom fM_feed_j19
  rw [n3, n4, show (20 : Int32) = hI 20 from rfl, show (600 : Int32) = hI 600 from rfl, hI_add, ilt (by omega) (by omega) (by omega) (by omega), ilt (by omega) (by omega) (by omega) (by omega)]
  by_cases c : 600 < n + 20
  · rw [if_pos c, if_pos c]
    exact Or.inr ⟨rfl, rfl⟩
  · rw [if_neg c, if_neg c, if_pos rfl, goes_t, bnd2_s, if_pos rfl]
    obtain ⟨I1, M1, p1, p2, p3, p4, p5', p6, p7, p8', p9, p10⟩ := t_four (a := a1) (M := wmF M 0 0) (I := I) n5 n3 (by rw [mF_ne (by decide)]; exact n4) n1 (by omega)
    obtain ⟨I2, M2, s1, s2, s3, s4, s5, s6, s7, s8, s9, s10⟩ := t_four (a := a2) p3 p4 p5' (by omega) (by omega)
    obtain ⟨I3, M3, u1, u2, u3, u4, u5, u6, u7, u8, u9, u10⟩ := t_four (a := a3) s3 s4 s5 (by omega) (by omega)
    obtain ⟨I4, M4, v1, v2, v3, v4, v5, v6, v7, v8, v9, v10⟩ := t_four (a := a4) u3 u4 u5 (by omega) (by omega)
    obtain ⟨I5, M5, w1, w2, w3, w4, w5, w6, w7, w8, w9, w10⟩ := t_four (a := a5) v3 v4 v5 (by omega) (by omega)
    refine Or.inl ⟨iF I5 1, I5, M5, ?_, ?_, ?_, ?_⟩
    · rw [p1, bnd_s, s1, bnd_s, u1, bnd_s, v1, bnd_s, w1, bnd_s]
    · rw [p2, bnd_s, s2, bnd_s, u2, bnd_s, v2, bnd_s, w2, bnd_s, w4, w5]
    · rw [w7 0 (by decide), v7 0 (by decide), u7 0 (by decide), s7 0 (by decide), p7 0 (by decide), mF_same]
    · have eF : ∀ k, k ≠ 2 → k ≠ 0 → mF M5 k = mF M k := fun k k2 k0 => by rw [w7 k k2, v7 k k2, u7 k k2, s7 k k2, p7 k k2, mF_ne k0]
      refine hS_buf hs0 ⟨⟨n + 4 + 4 + 4 + 4 + 4, by omega, by omega, w4, w5, w3⟩, ?_, ?_⟩ (fun k hk => eF k (by omega) (by omega)) (by rw [w9, v9, u9, s9, p9]; rfl) (fun a ha => by rw [w10 a ha, v10 a ha, u10 a ha, s10 a ha, p10 a ha, mA_wF])
      · rw [w6 8 (by decide), v6 8 (by decide), u6 8 (by decide), s6 8 (by decide), p6 8 (by decide), eF 10 (by decide) (by decide)]; exact n6
      · rw [w6 9 (by decide), v6 9 (by decide), u6 9 (by decide), s6 9 (by decide), p6 9 (by decide), eF 11 (by decide) (by decide)]; exact n7
theorem o_trunc (hs : hS B I Y Γ D O M) (x1 : -2147483648 ≤ x) (x2 : x < 2147483648) : (∃ I1 M1, fX_truncate I (hI x) = some (.inl (hI x), I1) ∧ fM_truncate M (hI x) = some (hI x, M1) ∧ mF M1 0 = 0 ∧ hS B I1 Y Γ D O M1) ∨ (fX_truncate I (hI x) = some (.inr eA, I) ∧ fM_truncate M (hI x) = some (0, wmF M 0 1)) := by
  have hs0 := hs
  obtain ⟨-, -, -, ⟨⟨n, n1, n2, n3, n4, n5⟩, n6, n7⟩, -⟩ := hs
  unfold fX_truncate fM_truncate fX_truncate_j15
  rw [n3, n4, show (0 : Int64) = hL 0 from rfl, hI_long (show -2147483648 ≤ n by omega) (by omega), isIn_e x1 x2 (by omega) (by omega) (by omega) (by omega), show (0 : Int32) = hI 0 from rfl, ilt x1 x2 (by omega) (by omega), ilt (by omega) (by omega) x1 x2]
  by_cases c : 0 ≤ x ∧ x ≤ n
  · rw [decide_eq_true c, if_neg (by omega), if_neg (by omega), goes_t, bnd2_s, if_pos rfl, bnd_s, bnd_s]
    refine Or.inl ⟨_, _, rfl, rfl, ?_, ?_⟩
    · rw [mF_ne (by decide), mF_same]; rfl
    · refine hS_buf hs0 ⟨⟨x, c.1, by omega, show z1 I.1 1 (hI x) 1 = hI x from z1_same, mF_same, fun k k1 k2 => n5 k k1 (by omega)⟩, ?_, ?_⟩ (fun k hk => by rw [mF_ne (by omega), mF_ne (by omega)]) rfl (fun a ha => by rw [mA_wF, mA_wF])
      · rw [mF_ne (by decide), mF_ne (by decide)]
        show z1 I.1 1 (hI x) 8 = _
        rw [z1_ne (by decide)]; exact n6
      · rw [mF_ne (by decide), mF_ne (by decide)]
        show z1 I.1 1 (hI x) 9 = _
        rw [z1_ne (by decide)]; exact n7
  · refine Or.inr ⟨?_, ?_⟩
    · by_cases c1 : x < 0
      · rw [if_pos c1]; rfl
      · rw [if_neg c1, if_pos (by omega)]; rfl
    · rw [decide_eq_false c, goes_f]; rfl
end HHY

/-! NUMBERS, SIGNS, THE NEXT TOKEN -/
section HIC
variable {M M1 M2 : zM} {I I1 I2 : zI} {n p q k v x : Int}
theorem t_takeNumber (hb : hBy I M n) (eI : iF I 1 = hI n) (e2 : iF I 2 = hI q) (e3 : iF I 3 = hI q) (eN : iN I = hL 0) (m3 : mF M 3 = hI n) (m4 : mF M 4 = hI q) (m5 : mF M 5 = hI q) (m7 : mF M 7 = hI 0) (q1 : 0 ≤ q) (n1 : 0 ≤ n) (n2 : n ≤ 600) (c0 : q < n) (hl : 48 ≤ chr M n q ∧ chr M n q ≤ 57) :
    ∃ p I1 M1, fI_takeNumber I = some I1 ∧ iter (fun s => fM_goOnRead_b146 s.1 s.2) fu (M, hI 0) = some M1 ∧ hT n p I1 M1 ∧ fTk I I1 M M1 ∧ q < p := by
  have key : ∃ r1 r2, iter (fun s => fI_takeNumber_b2 s.1 s.2) fu (I, hI 0) = some r1 ∧ iter (fun s => fM_goOnRead_b146 s.1 s.2) fu (M, hI 0) = some r2 ∧ ∃ p, hT n p r1 r2 ∧ fTk I r1 M r2 ∧ q < p := by
    refine it_two (n - q).toNat (fun i s1 s2 => ∃ (a w : Int32), s1 = (wiF I 2 (hI (q + i)), a) ∧ s2 = (wmF M 7 w, hI i) ∧ q + i ≤ n ∧ (i ≤ 4 → ∃ y : Int, 0 ≤ y ∧ y < 10 ^ i ∧ a = hI y ∧ w = hI y)) _ (by omega) ⟨hI 0, hI 0, ?_, ?_, by omega, fun _ => ⟨0, by omega, by decide, rfl, rfl⟩⟩ ?_
    · have e : wiF I 2 (hI (q + ((0 : Nat) : Int))) = I := by
        rw [show q + ((0 : Nat) : Int) = q by omega, ← e2]
        unfold wiF iF
        rw [z1_self]
      rw [e]
    · have e : wmF M 7 (hI 0) = M := by
        rw [← m7]
        unfold wmF mF
        rw [z1_self]
      rw [e]; rfl
    rintro i s1 s2 hi ⟨a, w, rfl, rfl, hq, hw⟩
    have hi3 : i ≤ (n - q).toNat := hi
    unfold fI_takeNumber_b2 fM_goOnRead_b146
    dsimp only
    have hb1 : hBy (wiF I 2 (hI (q + i))) (wmF M 7 w) n := hb
    have hm := m_here (I := wiF I 2 (hI (q + i))) (M := wmF M 7 w) (k := (i : Int)) (p := q) hb1 (by rw [mF_ne (by decide)]; exact m3) (by rw [mF_ne (by decide)]; exact m4) q1 (by omega) (by clear hw; omega) n1 n2
    have hcc : chr (wmF M 7 w) n (q + i) = chr M n (q + i) := rfl
    rw [hcc] at hm
    have f1 : iF (wiF I 2 (hI (q + i))) 1 = hI n := by rw [iF_ne (by decide)]; exact eI
    have f2 : iF (wiF I 2 (hI (q + i))) 2 = hI (q + i) := iF_same
    have f3 : iF (wiF I 2 (hI (q + i))) 3 = hI q := by rw [iF_ne (by decide)]; exact e3
    have hqn : -1 ≤ q + (i : Int) ∧ q + (i : Int) ≤ 600 := by clear hw; omega
    rw [hm, bnd_s, f1, f2, ilt (by clear hw; omega) (by clear hw; omega) (by omega) (by omega)]
    have fin : 0 < i → ∃ r1 r2, Option.map Sum.inr (fI_takeNumber_j59 (wiF I 2 (hI (q + i))) a) = some (.inr r1 : (zI × Int32) ⊕ zI) ∧ (if (4 : Int32) < hI (i : Int) then Option.map Sum.inr (fM_goOnRead_j199 (wmF M 7 w) (hI i) 4) else Option.map Sum.inr (fM_goOnRead_j199 (wmF M 7 w) (hI i) 2)) = some (.inr r2 : (zM × Int32) ⊕ zM) ∧ ∃ p, hT n p r1 r2 ∧ fTk I r1 M r2 ∧ q < p := by
      intro hi0
      unfold fI_takeNumber_j59 fI_takeNumber_j78 fM_goOnRead_j199 fM_goOnRead_j239
      have m4' : ∀ z, mF (wmF (wmF M 7 w) 6 z) 4 = hI q := fun z => by rw [mF_ne (by decide), mF_ne (by decide)]; exact m4
      by_cases c8 : (4 : Int) < i
      · have c8' : 4 < q + (i : Int) - q := by omega
        have c9 : (hI 4 < hI (i : Int)) = True := by rw [hI_lt (by omega) (by omega) (by omega) (by clear hw; omega)]; exact eq_true c8
        have c9' : (hI 4 < hI (q + (i : Int) - q)) = True := by rw [hI_lt (by omega) (by omega) (by omega) (by clear hw; omega)]; exact eq_true c8'
        simp only [bnd_s, ↓reduceIte, hI_lit, hI_add, hI_sub, f2, f3, c9, c9', m4', Option.map_some]
        refine ⟨_, _, rfl, rfl, q + i, ⟨q, 4, q1, by omega, hq, ?_, mF_same, ?_, ?_, by omega, by omega, ?_, ?_, fun _ => by omega, fun z => by omega, fun _ => ?_, fun z => by omega, fun z => by omega⟩, ⟨?_, rfl, ?_, rfl, rfl⟩, by omega⟩
        · rw [iF_ne (by decide), iF_ne (by decide), iF_same]
        · rw [iF_ne (by decide), iF_ne (by decide), iF_ne (by decide)]; exact e3
        · rw [mF_ne (by decide), mF_ne (by decide), mF_ne (by decide)]; exact m5
        · rw [iF_ne (by decide), iF_same]
        · rw [mF_ne (by decide), mF_same]
        · exact eN
        · intro k hk
          rw [iF_ne (by omega), iF_ne (by omega), iF_ne (by omega)]
        · intro k hk
          rw [mF_ne (by omega), mF_ne (by omega), mF_ne (by omega)]
      · have c8' : ¬ 4 < q + (i : Int) - q := by omega
        have c9 : (hI 4 < hI (i : Int)) = False := by rw [hI_lt (by omega) (by omega) (by omega) (by clear hw; omega)]; exact eq_false c8
        have c9' : (hI 4 < hI (q + (i : Int) - q)) = False := by rw [hI_lt (by omega) (by omega) (by omega) (by clear hw; omega)]; exact eq_false c8'
        have i4 : i ≤ 4 := by clear hw; omega
        obtain ⟨y, y1, y2, y3, y4⟩ := hw i4
        have y5 : y ≤ 9999 := by
          have : i = 0 ∨ i = 1 ∨ i = 2 ∨ i = 3 ∨ i = 4 := by omega
          rcases this with rfl | rfl | rfl | rfl | rfl <;> omega
        simp only [bnd_s, ↓reduceIte, hI_lit, hI_add, hI_sub, f2, f3, c9, c9', m4', Option.map_some]
        refine ⟨_, _, rfl, rfl, q + i, ⟨q, 2, q1, by omega, hq, ?_, mF_same, ?_, ?_, by omega, by omega, ?_, ?_, fun _ => by omega, fun z => by omega, fun _ => ?_, fun _ => ⟨y, y1, y5, ?_, ?_⟩, fun z => by omega⟩, ⟨?_, rfl, ?_, rfl, rfl⟩, by omega⟩
        · rw [iF_ne (by decide), iF_ne (by decide), iF_same]
        · rw [iF_ne (by decide), iF_ne (by decide), iF_ne (by decide)]; exact e3
        · rw [mF_ne (by decide), mF_ne (by decide), mF_ne (by decide)]; exact m5
        · rw [iF_ne (by decide), iF_same]
        · rw [mF_ne (by decide), mF_same]
        · exact eN
        · rw [iF_same, y3]
        · rw [mF_ne (by decide), mF_ne (by decide), mF_same, y4]
        · intro k hk
          rw [iF_ne (by omega), iF_ne (by omega), iF_ne (by omega)]
        · intro k hk
          rw [mF_ne (by omega), mF_ne (by omega), mF_ne (by omega)]
    by_cases c : q + (i : Int) < n
    · have hi4 : i < (n - q).toNat := by clear hw; omega
      obtain ⟨u1, u2, u3, u4⟩ := chr_r hb (k := q + i) (by omega) c
      have u5 : rd 600 (iA (wiF I 2 (hI (q + i)))) (hI (q + i)) = some (hI (sg (chr M n (q + i)))) := by
        rw [rd_hI (by omega) (by omega) (by omega), iA_wF, u4]
      rw [if_pos c, u5, bnd_s, dig_I u1 u2, dig_M (by omega) u2]
      by_cases cl : 48 ≤ chr M n (q + i) ∧ chr M n (q + i) ≤ 57
      · have hs : sg (chr M n (q + i)) = chr M n (q + i) := by unfold sg; rw [if_pos (by omega)]
        rw [decide_eq_true cl, if_pos rfl, if_pos rfl, bnd_s, show (1 : Int32) = hI 1 from rfl, hI_add, bnd_s, hs, show (4 : Int32) = hI 4 from rfl, ilt (by omega) (by omega) (by omega) (by omega)]
        have eI2 : wiF (wiF I 2 (hI (q + i))) 2 (hI (q + i + 1)) = wiF I 2 (hI (q + ((i + 1 : Nat) : Int))) := by
          unfold wiF
          dsimp only
          rw [z1_z1, show q + (i : Int) + 1 = q + ((i + 1 : Nat) : Int) by omega]
        rw [eI2]
        by_cases c8 : (i : Int) < 4
        · have i4 : i ≤ 4 := by clear hw; omega
          obtain ⟨y, y1, y2, y3, y4⟩ := hw i4
          have e7 : mF (wmF M 7 w) 7 = hI y := by rw [mF_same, y4]
          have e10 : (10 : Int) ^ (i + 1) = 10 ^ i * 10 := Int.pow_succ 10 i
          rw [if_pos c8, bnd_s, e7, y3, show (10 : Int32) = hI 10 from rfl, show (48 : Int32) = hI 48 from rfl, hI_mul, hI_mul, hI_add, hI_add, hI_sub, hI_sub, bnd_s, hI_add]
          refine Or.inl ⟨hi4, _, _, rfl, rfl, hI (y * 10 + chr M n (q + i) - 48), hI (10 * y + chr M n (q + i) - 48), rfl, ?_, by clear hw; omega, fun _ => ⟨y * 10 + chr M n (q + i) - 48, by clear hw; omega, by clear hw; omega, rfl, congrArg hI (by clear hw; omega)⟩⟩
          have : wmF (wmF M 7 w) 7 (hI (10 * y + chr M n (q + i) - 48)) = wmF M 7 (hI (10 * y + chr M n (q + i) - 48)) := by
            unfold wmF
            dsimp only
            rw [z1_z1]
          rw [this]; rfl
        · rw [if_neg c8, hI_add]
          exact Or.inl ⟨hi4, _, _, rfl, rfl, _, _, rfl, rfl, by clear hw; omega, fun z => by clear hw; omega⟩
      · have i0 : 0 < i := by
          by_cases e : i = 0
          · subst e
            rw [show q + ((0 : Nat) : Int) = q by omega] at cl
            exact absurd hl cl
          · omega
        rw [decide_eq_false cl, if_neg (by decide), if_neg (by decide)]
        exact Or.inr (fin i0)
    · have i0 : 0 < i := by clear hw; omega
      rw [if_neg c, chr_e c, dig_M (by omega) (by omega), decide_eq_false (by omega), if_neg (by decide)]
      exact Or.inr (fin i0)
  obtain ⟨r1, r2, a, b, p, c, d⟩ := key
  exact ⟨p, r1, r2, a, b, c, d⟩
theorem fTk_rf : fTk I I M M := ⟨fun _ _ => rfl, rfl, fun _ _ => rfl, rfl, rfl⟩
theorem fTk_tr (h1 : fTk I I1 M M1) (h2 : fTk I1 I2 M1 M2) : fTk I I2 M M2 := ⟨fun k hk => (h2.1 k hk).trans (h1.1 k hk), h2.2.1.trans h1.2.1, fun k hk => (h2.2.2.1 k hk).trans (h1.2.2.1 k hk), h2.2.2.2.1.trans h1.2.2.2.1, h2.2.2.2.2.trans h1.2.2.2.2⟩
theorem mF_wN {w : Int64} {k : Nat} : mF (wmN M w) k = mF M k := rfl
def mJ (M : zM) : Option (zM ⊕ zM) :=
  bnd (some (wmF M 5 (mF M 4))) fun M29 =>
  bnd (some (wmN M29 0)) fun M30 =>
  bnd (some (wmF M30 7 0)) fun M31 =>
  bnd (fM_here M31 0) fun v32 =>
  if v32 < 0 then
    bnd (some (wmF M31 6 0)) fun M34 =>
    some (.inr M34)
  else
    if (fM_isLetter v32) = true then
      Option.map .inr (iter (fun s => fM_goOnRead_b76 s.1 s.2) fu (M31, 0))
    else
      if (fM_isDigit v32) = true then
        Option.map .inr (iter (fun s => fM_goOnRead_b146 s.1 s.2) fu (M31, 0))
      else
        if v32 = 59 then
          Option.map .inr (fM_goOnRead_j224 M31 v32)
        else
          if v32 = 40 then
            Option.map .inr (fM_goOnRead_j224 M31 v32)
          else
            if v32 = 41 then
              Option.map .inr (fM_goOnRead_j224 M31 v32)
            else
              Option.map .inr (fM_goOnRead_j229 M31 v32 4)
theorem m_b0 : fM_goOnRead_b0 M = bnd (fM_here M 0) fun v => if v = 32 then fM_goOnRead_j20 M else bnd (fM_here M 0) fun v => if v = 10 then fM_goOnRead_j20 M else mJ M := rfl
theorem t_j39 (hb : hBy I M n) (eI : iF I 1 = hI n) (e2 : iF I 2 = hI p) (m3 : mF M 3 = hI n) (m4 : mF M 4 = hI p) (p1 : 0 ≤ p) (p2 : p ≤ n) (n2 : n ≤ 600) :
    ∃ p' r1 r2, fI_next_j39 I = some r1 ∧ mJ M = some (.inr r2) ∧ hT n p' r1 r2 ∧ fTk I r1 M r2 ∧ p ≤ p' ∧ (iF r1 4 ≠ hI 0 → p < p') := by
  have hb2 : hBy (wiN (wiF I 3 (hI p)) 0) (wmF (wmN (wmF M 5 (hI p)) 0) 7 (hI 0)) n := hb
  have n3 : mF (wmF (wmN (wmF M 5 (hI p)) 0) 7 (hI 0)) 3 = hI n := by rw [mF_ne (by decide), mF_wN, mF_ne (by decide)]; exact m3
  have n4 : mF (wmF (wmN (wmF M 5 (hI p)) 0) 7 (hI 0)) 4 = hI p := by rw [mF_ne (by decide), mF_wN, mF_ne (by decide)]; exact m4
  have n5 : mF (wmF (wmN (wmF M 5 (hI p)) 0) 7 (hI 0)) 5 = hI p := by rw [mF_ne (by decide), mF_wN, mF_same]
  have n7 : mF (wmF (wmN (wmF M 5 (hI p)) 0) 7 (hI 0)) 7 = hI 0 := mF_same
  have i1 : iF (wiN (wiF I 3 (hI p)) 0) 1 = hI n := by rw [iF_wN, iF_ne (by decide)]; exact eI
  have i2 : iF (wiN (wiF I 3 (hI p)) 0) 2 = hI p := by rw [iF_wN, iF_ne (by decide)]; exact e2
  have i3 : iF (wiN (wiF I 3 (hI p)) 0) 3 = hI p := by rw [iF_wN, iF_same]
  have hcc : chr (wmF (wmN (wmF M 5 (hI p)) 0) 7 (hI 0)) n p = chr M n p := rfl
  have hm2 := m_here (k := 0) hb2 n3 n4 (by omega) (by omega) (by omega) (by omega) n2
  rw [Int.add_zero, hcc] at hm2
  have fr : fTk I (wiN (wiF I 3 (hI p)) 0) M (wmF (wmN (wmF M 5 (hI p)) 0) 7 (hI 0)) := by
    refine ⟨fun k hk => ?_, rfl, fun k hk => ?_, rfl, rfl⟩
    · rw [iF_wN, iF_ne (by omega)]
    · rw [mF_ne (by omega), mF_wN, mF_ne (by omega)]
  unfold fI_next_j39 mJ
  rw [e2, m4, show (0 : Int32) = hI 0 from rfl, bnd_s, bnd_s, bnd_s, bnd_s, bnd_s, bnd_s]
  have l0 : (0 : Int64) = hL 0 := rfl
  generalize hJ : wiN (wiF I 3 (hI p)) 0 = J at *
  generalize hN : wmF (wmN (wmF M 5 (hI p)) 0) 7 (hI 0) = N at *
  have jN : iN J = hL 0 := by rw [← hJ]; rfl
  have nN : mN N = hL 0 := by rw [← hN]; rfl
  have nA : chr N n p = chr M n p := hcc
  rw [hm2, bnd_s, i1, i2, ilt (by omega) (by omega) (by omega) (by omega)]
  by_cases c : p < n
  · obtain ⟨u1, u2, u3, u4⟩ := chr_r hb2 (k := p) (by omega) c
    rw [nA] at u1 u2 u3 u4
    have u5 : rd 600 (iA J) (hI p) = some (hI (sg (chr M n p))) := by
      rw [rd_hI (by omega) (by omega) (by omega), u4]
    rw [if_pos c, u5, bnd_s, let_I u1 u2, let_M (by omega) u2, ilt (by omega) (by omega) (by omega) (by omega), if_neg (show ¬ chr M n p < 0 by omega)]
    by_cases cl : 97 ≤ chr M n p ∧ chr M n p ≤ 122
    · obtain ⟨p', I2, M2, q1, q2, q3, q4, q5⟩ := t_takeWord hb2 i1 i2 i3 n3 n4 n5 nN p1 (by omega) n2 c (by rw [nA]; exact cl)
      rw [decide_eq_true cl, if_pos rfl, if_pos rfl, q1, bnd_s, q2, Option.map_some]
      exact ⟨p', I2, M2, rfl, rfl, q3, fTk_tr fr q4, by omega, fun _ => q5⟩
    · rw [decide_eq_false cl, if_neg (by decide), if_neg (by decide), bnd_s, dig_I u1 u2, dig_M (by omega) u2]
      by_cases cd : 48 ≤ chr M n p ∧ chr M n p ≤ 57
      · obtain ⟨p', I2, M2, q1, q2, q3, q4, q5⟩ := t_takeNumber hb2 i1 i2 i3 jN n3 n4 n5 n7 p1 (by omega) n2 c (by rw [nA]; exact cd)
        rw [decide_eq_true cd, if_pos rfl, if_pos rfl, q1, bnd_s, q2, Option.map_some]
        exact ⟨p', I2, M2, rfl, rfl, q3, fTk_tr fr q4, by omega, fun _ => q5⟩
      · rw [decide_eq_false cd, if_neg (by decide), if_neg (by decide)]
        unfold fI_takeSign fI_takeSign_j41 fI_takeSign_j46 fM_goOnRead_j224 fM_goOnRead_j229 fM_goOnRead_j239
        have s2 : ∀ x y, iF (wiF (wiF J 7 x) 4 y) 2 = hI p := fun x y => by rw [iF_ne (by decide), iF_ne (by decide)]; exact i2
        have s4 : ∀ x y, mF (wmF (wmF N 6 x) 7 y) 4 = hI p := fun x y => by rw [mF_ne (by decide), mF_ne (by decide)]; exact n4
        rw [i2, u5, bnd_s, bnd_s, iF_same]
        simp only [bnd_s, s2, s4, hI_lit, hI_add, Option.map_some]
        have sgn : ∀ kd : Int, (kd = 3 ∨ kd = 4) → (kd = 3 → chr M n p = 59 ∨ chr M n p = 40 ∨ chr M n p = 41) → hT n (p + 1) (wiF (wiF (wiF J 7 (hI (sg (chr M n p)))) 4 (hI kd)) 2 (hI (p + 1))) (wmF (wmF (wmF N 6 (hI kd)) 7 (hI (chr M n p))) 4 (hI (p + 1))) ∧ fTk J (wiF (wiF (wiF J 7 (hI (sg (chr M n p)))) 4 (hI kd)) 2 (hI (p + 1))) N (wmF (wmF (wmF N 6 (hI kd)) 7 (hI (chr M n p))) 4 (hI (p + 1))) := by
          intro kd hk hk3
          refine ⟨⟨p, kd, p1, by omega, by omega, iF_same, mF_same, ?_, ?_, by omega, by omega, ?_, ?_, fun _ => by omega, fun z => by omega, fun _ => jN, fun z => by omega, fun z => ⟨chr M n p, ?_, ?_, hk3 z⟩⟩, ⟨fun k hk => ?_, rfl, fun k hk => ?_, rfl, rfl⟩⟩
          · rw [iF_ne (by decide), iF_ne (by decide), iF_ne (by decide)]; exact i3
          · rw [mF_ne (by decide), mF_ne (by decide), mF_ne (by decide)]; exact n5
          · rw [iF_ne (by decide), iF_same]
          · rw [mF_ne (by decide), mF_ne (by decide), mF_same]
          · have hs : sg (chr M n p) = chr M n p := by have := hk3 z; unfold sg; rw [if_pos (by omega)]
            rw [iF_ne (by decide), iF_ne (by decide), iF_same, hs]
          · rw [mF_ne (by decide), mF_same]
          · rw [iF_ne (by omega), iF_ne (by omega), iF_ne (by omega)]
          · rw [mF_ne (by omega), mF_ne (by omega), mF_ne (by omega)]
        have sgv : ∀ w : Int, 0 ≤ w → w < 128 → ((sg (chr M n p) = w) ↔ (chr M n p = w)) := by
          intro w w1 w2
          unfold sg
          by_cases h : chr M n p < 128
          · rw [if_pos h]
          · rw [if_neg h]; omega
        have sr : -128 ≤ sg (chr M n p) ∧ sg (chr M n p) < 128 := by
          unfold sg
          by_cases h : chr M n p < 128
          · rw [if_pos h]; omega
          · rw [if_neg h]; omega
        rw [ieq (by omega) (by omega) (by omega) (by omega), ieq (by omega) (by omega) (by omega) (by omega), ieq (by omega) (by omega) (by omega) (by omega)]
        rw [ieq (by omega) (by omega) (by omega) (by omega), ieq (by omega) (by omega) (by omega) (by omega), ieq (by omega) (by omega) (by omega) (by omega)]
        simp only [sgv 59 (by omega) (by omega), sgv 40 (by omega) (by omega), sgv 41 (by omega) (by omega)]
        by_cases ca : chr M n p = 59
        · have h := sgn 3 (Or.inl rfl) (fun _ => Or.inl ca)
          rw [if_pos ca, if_pos ca]
          exact ⟨p + 1, _, _, rfl, rfl, h.1, fTk_tr fr h.2, by omega, fun _ => by omega⟩
        · rw [if_neg ca, if_neg ca]
          by_cases cb : chr M n p = 40
          · have h := sgn 3 (Or.inl rfl) (fun _ => Or.inr (Or.inl cb))
            rw [if_pos cb, if_pos cb]
            exact ⟨p + 1, _, _, rfl, rfl, h.1, fTk_tr fr h.2, by omega, fun _ => by omega⟩
          · rw [if_neg cb, if_neg cb]
            by_cases cc : chr M n p = 41
            · have h := sgn 3 (Or.inl rfl) (fun _ => Or.inr (Or.inr cc))
              rw [if_pos cc, if_pos cc]
              exact ⟨p + 1, _, _, rfl, rfl, h.1, fTk_tr fr h.2, by omega, fun _ => by omega⟩
            · have h := sgn 4 (Or.inr rfl) (fun z => by omega)
              rw [if_neg cc, if_neg cc]
              exact ⟨p + 1, _, _, rfl, rfl, h.1, fTk_tr fr h.2, by omega, fun _ => by omega⟩
  · have e : p = n := by omega
    rw [if_neg c, chr_e c, ilt (by omega) (by omega) (by omega) (by omega), if_pos (show (-1 : Int) < 0 by omega), bnd_s]
    refine ⟨p, _, _, rfl, rfl, ⟨p, 0, p1, by omega, by omega, ?_, ?_, ?_, ?_, by omega, by omega, iF_same, mF_same, fun z => absurd rfl z, fun z => by omega, fun _ => jN, fun z => by omega, fun z => by omega⟩, fTk_tr fr ⟨fun k hk => ?_, rfl, fun k hk => ?_, rfl, rfl⟩, by omega, fun z => absurd iF_same z⟩
    · rw [iF_ne (by decide)]; exact i2
    · rw [mF_ne (by decide)]; exact n4
    · rw [iF_ne (by decide)]; exact i3
    · rw [mF_ne (by decide)]; exact n5
    · rw [iF_ne (by omega)]
    · rw [mF_ne (by omega)]
/-- the next token -/
theorem t_next (hb : hBy I M n) (eI : iF I 1 = hI n) (e2 : iF I 2 = hI p) (m3 : mF M 3 = hI n) (m4 : mF M 4 = hI p) (p1 : 0 ≤ p) (p2 : p ≤ n) (n2 : n ≤ 600) :
    ∃ p' I1 M1, fI_next I = some I1 ∧ fM_goOnRead M = some M1 ∧ hT n p' I1 M1 ∧ fTk I I1 M M1 ∧ p ≤ p' ∧ (iF I1 4 ≠ hI 0 → p < p') := by
  have key : ∃ r1 r2, iter (fun s => fI_next_b0 s) fu I = some r1 ∧ iter (fun s => fM_goOnRead_b0 s) fu M = some r2 ∧ ∃ p', hT n p' r1 r2 ∧ fTk I r1 M r2 ∧ p ≤ p' ∧ (iF r1 4 ≠ hI 0 → p < p') := by
    refine it_two (n - p).toNat (fun i s1 s2 => hBy s1 s2 n ∧ iF s1 1 = hI n ∧ iF s1 2 = hI (p + i) ∧ mF s2 3 = hI n ∧ mF s2 4 = hI (p + i) ∧ p + i ≤ n ∧ fTk I s1 M s2) _ (by omega) ⟨hb, eI, by rw [show p + ((0 : Nat) : Int) = p by omega]; exact e2, m3, by rw [show p + ((0 : Nat) : Int) = p by omega]; exact m4, by omega, fTk_rf⟩ ?_
    rintro i I1 M1 hi ⟨hb1, a1, a2, a3, a4, a5, a6⟩
    have hi3 : i ≤ (n - p).toNat := hi
    have hm := m_here (k := 0) hb1 a3 a4 (by omega) (by omega) (by omega) (by omega) n2
    rw [Int.add_zero] at hm
    obtain ⟨p', r1, r2, k1, k2, k3, k4, k5, k6⟩ := t_j39 hb1 a1 a2 a3 a4 (by omega) a5 n2
    have fin : ∃ t1 t2, Option.map .inr (fI_next_j39 I1) = some (.inr t1 : zI ⊕ zI) ∧ mJ M1 = some (.inr t2) ∧ ∃ p', hT n p' t1 t2 ∧ fTk I t1 M t2 ∧ p ≤ p' ∧ (iF t1 4 ≠ hI 0 → p < p') := by
      rw [k1]
      exact ⟨r1, r2, rfl, k2, p', k3, fTk_tr a6 k4, by omega, fun z => by have := k6 z; omega⟩
    show _ ∨ _
    rw [m_b0]
    unfold fI_next_b0 fM_goOnRead_j20
    rw [a1, a2, a4, ilt (by omega) (by omega) (by omega) (by omega), show (0 : Int32) = hI 0 from rfl, hm]
    simp only [bnd_s]
    by_cases c : p + (i : Int) < n
    · obtain ⟨u1, u2, u3, u4⟩ := chr_r hb1 (k := p + i) (by omega) c
      have u5 : rd 600 (iA I1) (hI (p + i)) = some (hI (sg (chr M1 n (p + i)))) := by
        rw [rd_hI (by omega) (by omega) (by omega), u4]
      rw [if_pos c, u5]
      simp only [bnd_s]
      rw [blank_I u1 u2, show (32 : Int32) = hI 32 from rfl, show (10 : Int32) = hI 10 from rfl, ieq (by omega) (by omega) (by omega) (by omega), ieq (by omega) (by omega) (by omega) (by omega), show (1 : Int32) = hI 1 from rfl, hI_add]
      have go : ∀ i2 : Nat, i2 = i + 1 → hBy (wiF I1 2 (hI (p + i + 1))) (wmF M1 4 (hI (p + i + 1))) n ∧ iF (wiF I1 2 (hI (p + i + 1))) 1 = hI n ∧ iF (wiF I1 2 (hI (p + i + 1))) 2 = hI (p + i2) ∧ mF (wmF M1 4 (hI (p + i + 1))) 3 = hI n ∧ mF (wmF M1 4 (hI (p + i + 1))) 4 = hI (p + i2) ∧ p + i2 ≤ n ∧ fTk I (wiF I1 2 (hI (p + i + 1))) M (wmF M1 4 (hI (p + i + 1))) := by
        rintro i2 rfl
        refine ⟨hb1, ?_, ?_, ?_, ?_, by omega, fTk_tr a6 ⟨fun k hk => ?_, rfl, fun k hk => ?_, rfl, rfl⟩⟩
        · rw [iF_ne (by decide)]; exact a1
        · rw [iF_same]; exact congrArg hI (by omega)
        · rw [mF_ne (by decide)]; exact a3
        · rw [mF_same]; exact congrArg hI (by omega)
        · rw [iF_ne (by omega)]
        · rw [mF_ne (by omega)]
      have hi4 : i < (n - p).toNat := by omega
      by_cases ca : chr M1 n (p + i) = 32
      · rw [decide_eq_true (Or.inl ca), if_pos rfl, if_pos ca]
        exact Or.inl ⟨hi4, _, _, rfl, rfl, go (i + 1) rfl⟩
      · rw [if_neg ca]
        by_cases cb : chr M1 n (p + i) = 10
        · rw [decide_eq_true (Or.inr cb), if_pos rfl, if_pos cb]
          exact Or.inl ⟨hi4, _, _, rfl, rfl, go (i + 1) rfl⟩
        · rw [decide_eq_false (by omega), if_neg (by decide), if_neg cb]
          exact Or.inr fin
    · rw [if_neg c, chr_e c, show (32 : Int32) = hI 32 from rfl, show (10 : Int32) = hI 10 from rfl, ieq (by omega) (by omega) (by omega) (by omega), ieq (by omega) (by omega) (by omega) (by omega), if_neg (show ¬ (-1 : Int) = 32 by omega), if_neg (show ¬ (-1 : Int) = 10 by omega)]
      exact Or.inr fin
  obtain ⟨r1, r2, a, b, p', c, d, e⟩ := key
  exact ⟨p', r1, r2, a, b, c, d, e⟩
end HIC

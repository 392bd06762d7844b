/-! TOKENS -/
section HIB
variable {M M1 M2 : zM} {I I1 I2 : zI} {n p q k v x : Int}
/-- the byte at a place, none behind the end -/
def chr (M : zM) (n k : Int) : Int := if k < n then (mA M 248 k.toNat).toInt else -1
theorem chr_r (hb : hBy I M n) (k1 : 0 ≤ k) (k2 : k < n) : 0 ≤ chr M n k ∧ chr M n k < 256 ∧ mA M 248 k.toNat = hI (chr M n k) ∧ iA I k.toNat = hI (sg (chr M n k)) := by
  obtain ⟨u, u1, u2, u3, u4⟩ := hb k k1 k2
  have e : chr M n k = u := by
    unfold chr
    rw [if_pos k2, u3, hI_v (by omega) (by omega)]
  rw [e]
  exact ⟨u1, u2, u3, u4⟩
theorem chr_e (k2 : ¬ k < n) : chr M n k = -1 := if_neg k2
theorem m_here (hb : hBy I M n) (e3 : mF M 3 = hI n) (e4 : mF M 4 = hI p) (p1 : 0 ≤ p) (k1 : 0 ≤ k) (k2 : p + k ≤ 601) (n1 : 0 ≤ n) (n2 : n ≤ 600) : fM_here M (hI k) = some (hI (chr M n (p + k))) := by
  unfold fM_here
  rw [e3, e4, hI_add, ilt (by omega) (by omega) (by omega) (by omega), show (1 : Int32) = hI 1 from rfl, hI_neg]
  by_cases c : p + k < n
  · have h := chr_r hb (k := p + k) (by omega) c
    rw [if_pos c, rd_hI (by omega) (by omega) (by omega), bnd_s, h.2.2.1]
  · rw [if_neg c, chr_e c]
theorem dig_I {u : Int} (h1 : 0 ≤ u) (h2 : u < 256) : fI_isDigit (hI (sg u)) = decide (48 ≤ u ∧ u ≤ 57) := by
  unfold fI_isDigit sg
  rw [show (48 : Int32) = hI 48 from rfl, show (57 : Int32) = hI 57 from rfl]
  by_cases c : u < 128
  · rw [if_pos c, ilt (by omega) (by omega) (by omega) (by omega), ilt (by omega) (by omega) (by omega) (by omega)]
    by_cases c1 : 48 ≤ u ∧ u ≤ 57
    · rw [decide_eq_true c1, if_neg (by omega), if_neg (by omega)]
    · rw [decide_eq_false c1]
      by_cases c2 : u < 48
      · rw [if_pos c2]
      · rw [if_neg c2, if_pos (by omega)]
  · rw [if_neg c, ilt (by omega) (by omega) (by omega) (by omega), if_pos (by omega), decide_eq_false (by omega)]
theorem dig_M {u : Int} (h1 : -1 ≤ u) (h2 : u < 256) : fM_isDigit (hI u) = decide (48 ≤ u ∧ u ≤ 57) := by
  unfold fM_isDigit
  rw [show (48 : Int32) = hI 48 from rfl, show (57 : Int32) = hI 57 from rfl, ilt (by omega) (by omega) (by omega) (by omega), ilt (by omega) (by omega) (by omega) (by omega)]
  by_cases c1 : 48 ≤ u ∧ u ≤ 57
  · rw [decide_eq_true c1, if_neg (by omega), if_neg (by omega)]
  · rw [decide_eq_false c1]
    by_cases c2 : u < 48
    · rw [if_pos c2]
    · rw [if_neg c2, if_pos (by omega)]
theorem blank_I {u : Int} (h1 : 0 ≤ u) (h2 : u < 256) : fI_isBlank (hI (sg u)) = decide (u = 32 ∨ u = 10) := by
  unfold fI_isBlank sg
  rw [show (32 : Int32) = hI 32 from rfl, show (10 : Int32) = hI 10 from rfl]
  by_cases c : u < 128
  · rw [if_pos c, ieq (by omega) (by omega) (by omega) (by omega), ieq (by omega) (by omega) (by omega) (by omega)]
    by_cases c1 : u = 32
    · rw [if_pos c1, decide_eq_true (Or.inl c1)]
    · rw [if_neg c1]
      by_cases c2 : u = 10
      · rw [if_pos c2, decide_eq_true (Or.inr c2)]
      · rw [if_neg c2, decide_eq_false (by omega)]
  · rw [if_neg c, ieq (by omega) (by omega) (by omega) (by omega), if_neg (by omega), ieq (by omega) (by omega) (by omega) (by omega), if_neg (by omega), decide_eq_false (by omega)]
/-- a token on both sides: its end, its place, its kind and what it holds -/
def hTk (kd : Int) (I : zI) (M : zM) : Prop :=
  (kd = 1 → ∃ l, hWd l ∧ iN I = hL (p8 l) ∧ mN M = hL (p5 l)) ∧ (kd ≠ 1 → iN I = hL 0) ∧
  (kd = 2 → ∃ v, 0 ≤ v ∧ v ≤ 9999 ∧ iF I 6 = hI v ∧ mF M 7 = hI v) ∧ (kd = 3 → ∃ c, iF I 7 = hI c ∧ mF M 7 = hI c ∧ (c = 59 ∨ c = 40 ∨ c = 41))
def hT (n p : Int) (I : zI) (M : zM) : Prop := ∃ q kd : Int, 0 ≤ q ∧ q ≤ p ∧ p ≤ n ∧ iF I 2 = hI p ∧ mF M 4 = hI p ∧ iF I 3 = hI q ∧ mF M 5 = hI q ∧ 0 ≤ kd ∧ kd ≤ 4 ∧ iF I 4 = hI kd ∧ mF M 6 = hI kd ∧ (kd ≠ 0 → q < p) ∧ hTk kd I M
/-- nothing but the token changes -/
def fTk (I I1 : zI) (M M1 : zM) : Prop := (∀ k, k = 1 ∨ k = 8 ∨ k = 9 → iF I1 k = iF I k) ∧ iA I1 = iA I ∧ (∀ k, k < 4 ∨ 7 < k → mF M1 k = mF M k) ∧ mB M1 = mB M ∧ mA M1 = mA M
theorem t_takeWord (hb : hBy I M n) (eI : iF I 1 = hI n) (e2 : iF I 2 = hI q) (e3 : iF I 3 = hI q) (m3 : mF M 3 = hI n) (m4 : mF M 4 = hI q) (m5 : mF M 5 = hI q) (mn : mN M = hL 0) (q1 : 0 ≤ q) (n1 : 0 ≤ n) (n2 : n ≤ 600) (c0 : q < n) (hl : 97 ≤ chr M n q ∧ chr M n q ≤ 122) :
    ∃ p I1 M1, fI_takeWord I = some I1 ∧ iter (fun s => fM_goOnRead_b76 s.1 s.2) fu (M, hI 0) = some M1 ∧ hT n p I1 M1 ∧ fTk I I1 M M1 ∧ q < p := by
  have key : ∃ r1 r2, iter (fun s => fI_takeWord_b2 s.1 s.2) fu (I, hL 0) = some r1 ∧ iter (fun s => fM_goOnRead_b76 s.1 s.2) fu (M, hI 0) = some r2 ∧ ∃ p, hT n p r1 r2 ∧ fTk I r1 M r2 ∧ q < p := by
    refine it_two (n - q).toNat (fun i s1 s2 => ∃ (a : Int64) (w : Int64), s1 = (wiF I 2 (hI (q + i)), a) ∧ s2 = (wmN M w, hI i) ∧ q + i ≤ n ∧ (i = 0 ∨ True) ∧ (i ≤ 8 → ∃ l : List Int, l.length = i ∧ (∀ x ∈ l, 1 ≤ x ∧ x ≤ 26) ∧ a = hL (p8 l) ∧ w = hL (p5 l))) _ (by omega) ⟨hL 0, hL 0, ?_, ?_, by omega, Or.inr trivial, fun _ => ⟨[], rfl, (fun x hx => absurd hx List.not_mem_nil), rfl, rfl⟩⟩ ?_
    · have e : wiF I 2 (hI (q + ((0 : Nat) : Int))) = I := by
        rw [show q + ((0 : Nat) : Int) = q by omega, ← e2]
        unfold wiF iF
        rw [z1_self]
      rw [e]
    · have e : wmN M (hL 0) = M := by rw [← mn]; rfl
      rw [e]; rfl
    rintro i s1 s2 hi ⟨a, w, rfl, rfl, hq, -, hw⟩
    have hi3 : i ≤ (n - q).toNat := hi
    unfold fI_takeWord_b2 fM_goOnRead_b76
    dsimp only
    have hb1 : hBy (wiF I 2 (hI (q + i))) (wmN M w) n := hb
    have hm := m_here (I := wiF I 2 (hI (q + i))) (M := wmN M w) (k := (i : Int)) (p := q) hb1 m3 m4 q1 (by omega) (by omega) n1 n2
    have hcc : chr (wmN M w) n (q + i) = chr M n (q + i) := rfl
    rw [hcc] at hm
    have f1 : iF (wiF I 2 (hI (q + i))) 1 = hI n := by rw [iF_ne (by decide)]; exact eI
    have f2 : iF (wiF I 2 (hI (q + i))) 2 = hI (q + i) := iF_same
    have f3 : iF (wiF I 2 (hI (q + i))) 3 = hI q := by rw [iF_ne (by decide)]; exact e3
    rw [hm, bnd_s, f1, f2, ilt (by omega) (by omega) (by omega) (by omega)]
    -- the end of the word
    have fin : 0 < i → ∃ r1 r2, Option.map Sum.inr (fI_takeWord_j57 (wiF I 2 (hI (q + i))) a) = some (.inr r1 : (zI × Int64) ⊕ zI) ∧ (if (8 : Int32) < hI (i : Int) then Option.map Sum.inr (fM_goOnRead_j133 (wmN M w) (hI i) 4) else Option.map Sum.inr (fM_goOnRead_j133 (wmN M w) (hI i) 1)) = some (.inr r2 : (zM × Int32) ⊕ zM) ∧ ∃ p, hT n p r1 r2 ∧ fTk I r1 M r2 ∧ q < p := by
      intro hi0
      unfold fI_takeWord_j57 fI_takeWord_j76 fI_takeWord_j87 fI_takeWord_j100 fM_goOnRead_j133 fM_goOnRead_j239
      have m4' : mF (wmF (wmN M w) 6 (hI 4)) 4 = hI q := by rw [mF_ne (by decide)]; exact m4
      have m4'' : mF (wmF (wmN M w) 6 (hI 1)) 4 = hI q := by rw [mF_ne (by decide)]; exact m4
      by_cases c8 : (8 : Int) < i
      · have c8' : 8 < q + (i : Int) - q := by omega
        simp (disch := omega) only [↓reduceIte, Int.reduceEq, Int.reduceLT, bnd_s, bnd2_s, bnd3_s, hI_lit, hL_lit, hI_add, hI_sub, hI_mul, hI_neg, hI_lt, hI_eq, if_true, if_false, eq_self_iff_true, true_and, and_true, false_and, and_false, decide_eq_true_eq, not_true, not_false_iff, Bool.false_eq_true, Bool.true_eq_false, f2, f3, c8, c8', m4', Option.map_some]
        refine ⟨_, _, rfl, rfl, q + i, ⟨q, 4, q1, by omega, hq, ?_, mF_same, ?_, ?_, by omega, by omega, ?_, ?_, fun _ => by omega, fun z => by omega, fun _ => rfl, fun z => by omega, fun z => by omega⟩, ⟨?_, rfl, ?_, rfl, rfl⟩, by omega⟩
        · rw [iF_wN, iF_ne (by decide), iF_same]
        · rw [iF_wN, iF_ne (by decide), iF_ne (by decide)]; exact e3
        · rw [mF_ne (by decide), mF_ne (by decide)]; exact m5
        · rw [iF_wN, iF_same]
        · rw [mF_ne (by decide), mF_same]
        · intro k hk
          rw [iF_wN, iF_ne (by omega), iF_ne (by omega)]
        · intro k hk
          rw [mF_ne (by omega), mF_ne (by omega)]; rfl
      · have c8' : ¬ 8 < q + (i : Int) - q := by omega
        obtain ⟨l, l1, l2, l3, l4⟩ := hw (by omega)
        simp (disch := omega) only [↓reduceIte, Int.reduceEq, Int.reduceLT, bnd_s, bnd2_s, bnd3_s, hI_lit, hL_lit, hI_add, hI_sub, hI_mul, hI_neg, hI_lt, hI_eq, if_true, if_false, eq_self_iff_true, true_and, and_true, false_and, and_false, decide_eq_true_eq, not_true, not_false_iff, Bool.false_eq_true, Bool.true_eq_false, f2, f3, c8, c8', m4'', Option.map_some]
        refine ⟨_, _, rfl, rfl, q + i, ⟨q, 1, q1, by omega, hq, ?_, mF_same, ?_, ?_, by omega, by omega, ?_, ?_, fun _ => by omega, fun _ => ⟨l, ⟨by omega, by omega, l2⟩, l3, ?_⟩, fun z => absurd rfl z, fun z => by omega, fun z => by omega⟩, ⟨?_, rfl, ?_, rfl, rfl⟩, by omega⟩
        · rw [iF_wN, iF_ne (by decide), iF_same]
        · rw [iF_wN, iF_ne (by decide), iF_ne (by decide)]; exact e3
        · rw [mF_ne (by decide), mF_ne (by decide)]; exact m5
        · rw [iF_wN, iF_same]
        · rw [mF_ne (by decide), mF_same]
        · exact l4
        · intro k hk
          rw [iF_wN, iF_ne (by omega), iF_ne (by omega)]
        · intro k hk
          rw [mF_ne (by omega), mF_ne (by omega)]; rfl
    by_cases c : q + (i : Int) < n
    · have hi4 : i < (n - q).toNat := by clear hw; omega
      obtain ⟨u1, u2, u3, u4⟩ := chr_r hb (k := q + i) (by omega) c
      have u5 : rd 600 (iA (wiF I 2 (hI (q + i)))) (hI (q + i)) = some (hI (sg (chr M n (q + i)))) := by
        rw [rd_hI (by omega) (by omega) (by omega), iA_wF, u4]
      rw [if_pos c, u5, bnd_s, let_I u1 u2, let_M (by omega) u2]
      by_cases cl : 97 ≤ chr M n (q + i) ∧ chr M n (q + i) ≤ 122
      · have hs : sg (chr M n (q + i)) = chr M n (q + i) := by unfold sg; rw [if_pos (by omega)]
        rw [decide_eq_true cl, if_pos rfl, if_pos rfl, bnd_s, show (1 : Int32) = hI 1 from rfl, hI_add, bnd_s, hs, show (8 : Int32) = hI 8 from rfl, ilt (by omega) (by omega) (by omega) (by omega)]
        have eI2 : wiF (wiF I 2 (hI (q + i))) 2 (hI (q + i + 1)) = wiF I 2 (hI (q + ((i + 1 : Nat) : Int))) := by
          unfold wiF
          dsimp only
          rw [z1_z1, show q + (i : Int) + 1 = q + ((i + 1 : Nat) : Int) by omega]
        rw [eI2]
        by_cases c8 : (i : Int) < 8
        · obtain ⟨l, l1, l2, l3, l4⟩ := hw (by omega)
          have a8 := p8_b0 (l := l) (by omega) l2
          have a5 := p5_b0 (l := l) (by omega) l2
          have ew : mN (wmN M w) = hL (p5 l) := l4
          have e8 : (a <<< (Int32.toInt64 (hI 8) &&& 63)) ||| Int32.toInt64 (hI (chr M n (q + i))) = hL (p8 l * 256 + chr M n (q + i)) := by
            rw [l3]; exact w8_or a8.1 a8.2 (by omega) (by omega)
          have e5 : (hL (p5 l) <<< (Int32.toInt64 5 &&& 63)) ||| Int32.toInt64 (hI (chr M n (q + i) - 97 + 1)) = hL (p5 l * 32 + (chr M n (q + i) - 97 + 1)) := w5_or a5.1 a5.2 (by omega) (by omega)
          rw [if_pos c8, bnd_s, show (97 : Int32) = hI 97 from rfl, hI_sub, hI_add, ew, e8, e5, bnd_s, hI_add]
          have g8 : p8 (l ++ [chr M n (q + i) - 96]) = p8 l * 256 + chr M n (q + i) := by
            have : p8 (l ++ [chr M n (q + i) - 96]) = p8 l * 256 + (96 + (chr M n (q + i) - 96)) := pk_snoc
            omega
          have g5 : p5 (l ++ [chr M n (q + i) - 96]) = p5 l * 32 + (chr M n (q + i) - 97 + 1) := by
            have : p5 (l ++ [chr M n (q + i) - 96]) = p5 l * 32 + (0 + (chr M n (q + i) - 96)) := pk_snoc
            omega
          have hw2 := hWd_snoc (l := l) (c := chr M n (q + i) - 96) (by omega) l2 (by omega) (by omega)
          exact Or.inl ⟨hi4, _, _, rfl, rfl, _, _, rfl, rfl, by omega, Or.inr trivial, fun _ => ⟨_, by simp [l1], hw2.2.2, by rw [g8], by rw [g5]⟩⟩
        · rw [if_neg c8, hI_add]
          exact Or.inl ⟨hi4, _, _, rfl, rfl, _, _, rfl, rfl, by omega, Or.inr trivial, fun z => by omega⟩
      · have i0 : 0 < i := by
          by_cases e : i = 0
          · subst e
            rw [show q + ((0 : Nat) : Int) = q by omega] at cl
            exact absurd hl cl
          · omega
        rw [decide_eq_false cl, if_neg (by decide), if_neg (by decide)]
        exact Or.inr (fin i0)
    · have i0 : 0 < i := by omega
      rw [if_neg c, chr_e c, let_M (by omega) (by omega), decide_eq_false (by omega), if_neg (by decide)]
      exact Or.inr (fin i0)
  obtain ⟨r1, r2, a, b, p, c, d⟩ := key
  exact ⟨p, r1, r2, a, b, c, d⟩
end HIB

/-! THE READER'S STEPS -/
section HID
variable {M M1 M2 : zM} {I I1 I2 : zI} {n p p0 q k v x c lo hi : Int} {l : List Int}
def hAt (n p : Int) (I : zI) (M : zM) : Prop := 0 ≤ n ∧ n ≤ 600 ∧ hBy I M n ∧ iF I 1 = hI n ∧ mF M 3 = hI n ∧ mF M 8 = hI 0 ∧ iF I 8 = hI 0 ∧ iF I 9 = hI (-1) ∧ mF M 9 = hI (-1) ∧ hT n p I M
/-- the reference is one token ahead -/
def hAh (n p0 : Int) (I : zI) (M : zM) : Prop := ∃ p I1, fI_next I = some I1 ∧ hAt n p I1 M ∧ p0 ≤ p ∧ (iF I1 4 ≠ hI 0 → p0 < p)
def hEr (I : zI) (M : zM) : Prop := ∃ c : Int, 0 < c ∧ c ≤ 5 ∧ mF M 8 = hI c ∧ iF I 8 = mF M 8 ∧ iF I 9 = mF M 9
def fGo (M M1 : zM) : Prop := (∀ k, k < 4 ∨ 9 < k → mF M1 k = mF M k) ∧ mB M1 = mB M ∧ mA M1 = mA M
theorem fGo_rf : fGo M M := ⟨fun _ _ => rfl, rfl, rfl⟩
theorem fGo_tr (h1 : fGo M M1) (h2 : fGo M1 M2) : fGo M M2 := ⟨fun k hk => (h2.1 k hk).trans (h1.1 k hk), h2.2.1.trans h1.2.1, h2.2.2.trans h1.2.2⟩
theorem fGo_hm (h : fGo M M1) : hm M1 = hm M := by unfold hm; rw [h.2.2]
theorem good_t (h : mF M 8 = hI 0) : fM_isGood M = true := by
  unfold fM_isGood
  rw [h, show (0 : Int32) = hI 0 from rfl, if_pos rfl]
theorem at_good (h : hAt n p I M) : fM_isGood M = true := good_t h.2.2.2.2.2.1
theorem ah_good (h : hAh n p I M) : fM_isGood M = true := by
  obtain ⟨_, _, _, h1, _⟩ := h
  exact at_good h1
theorem er_good (h : hEr I M) : fM_isGood M = false := by
  obtain ⟨c, c1, c2, c3, -⟩ := h
  unfold fM_isGood
  rw [c3, show (0 : Int32) = hI 0 from rfl, ieq (by omega) (by omega) (by omega) (by omega), if_neg (by omega)]
theorem b_more {a b : Int32} (g : fM_isGood M = false) : fM_more M a b = some (a, M) := by
  unfold fM_more
  rw [g]; rfl
theorem b_stays {a b : Int32} (g : fM_isGood M = false) : fM_stays M a b = some (a, M) := by
  unfold fM_stays
  rw [g]; rfl
theorem b_sign {a : Int32} (g : fM_isGood M = false) : fM_mustSign M a = some M := by
  unfold fM_mustSign fM_mustSign_j20
  rw [g]; rfl
theorem b_word (g : fM_isGood M = false) : fM_wordHere M = some (mN M, M) := by
  unfold fM_wordHere fM_wordHere_j20
  rw [g]; rfl
theorem g_more {a b : Int32} (g : fM_isGood M = true) : fM_more M a b = fM_number M a b := by
  unfold fM_more
  rw [g, if_pos rfl]
  generalize fM_number M a b = r
  cases r <;> rfl
theorem g_stays {a b : Int32} (g : fM_isGood M = true) : fM_stays M a b = fM_looks M a b := by
  unfold fM_stays
  rw [g, if_pos rfl]
  generalize fM_looks M a b = r
  cases r <;> rfl
theorem t_go (h : hAt n p I M) : ∃ M1, fM_goOnRead M = some M1 ∧ hAh n p I M1 ∧ fGo M M1 := by
  obtain ⟨n1, n2, hb, e1, m3, m8, e8, e9, m9, q, kd, q1, q2, q3, k1, k2, k3, k4, k5, k6, k7, k8, k9, k10⟩ := h
  obtain ⟨p', I1, M1, a1, a2, a3, a4, a5, a6⟩ := t_next hb e1 k1 m3 k2 (by omega) q3 n2
  refine ⟨M1, a2, ⟨p', I1, a1, ⟨n1, n2, fun k h1 h2 => ?_, ?_, ?_, ?_, ?_, ?_, ?_, a3⟩, a5, a6⟩, ⟨fun k hk => a4.2.2.1 k (by omega), a4.2.2.2.1, a4.2.2.2.2⟩⟩
  · rw [a4.2.1, a4.2.2.2.2]; exact hb k h1 h2
  · rw [a4.1 1 (by omega)]; exact e1
  · rw [a4.2.2.1 3 (by omega)]; exact m3
  · rw [a4.2.2.1 8 (by omega)]; exact m8
  · rw [a4.1 8 (by omega)]; exact e8
  · rw [a4.1 9 (by omega)]; exact e9
  · rw [a4.2.2.1 9 (by omega)]; exact m9
theorem tok (h : hAt n p I M) : ∃ kd : Int, 0 ≤ kd ∧ kd ≤ 4 ∧ iF I 4 = hI kd ∧ mF M 6 = hI kd ∧ hTk kd I M := by
  obtain ⟨n1, n2, hb, e1, m3, m8, e8, e9, m9, q, kd, q1, q2, q3, k1, k2, k3, k4, k5, k6, k7, k8, k9, k10⟩ := h
  exact ⟨kd, k5, k6, k7, k8, k10⟩
theorem t_fail (h : hAt n p I M) (c1 : 0 < c) (c2 : c ≤ 5) (hk : iF I 4 = hI 4 → c = 1) : ∃ I1 M1, fI_fail I (hI c) = some (false, I1) ∧ fM_wrong M (hI c) = some M1 ∧ hEr I1 M1 ∧ fGo M M1 := by
  obtain ⟨n1, n2, hb, e1, m3, m8, e8, e9, m9, q, kd, q1, q2, q3, k1, k2, k3, k4, k5, k6, k7, k8, k9, k10⟩ := h
  unfold fI_fail fM_wrong fM_wrong_j22
  have hk4 : kd = 4 → c = 1 := fun e => hk (by rw [k7, e])
  rw [m8, k8, show (0 : Int32) = hI 0 from rfl, show (4 : Int32) = hI 4 from rfl, show (1 : Int32) = hI 1 from rfl, ilt (by omega) (by omega) (by omega) (by omega), if_neg (show ¬ (0 : Int) < 0 by omega), ieq (by omega) (by omega) (by omega) (by omega)]
  have e : (if kd = 4 then bnd (some (wmF M 8 (hI 1))) fun M5 => bnd (some (wmF M5 9 (mF M5 5))) fun M6 => some M6 else bnd (some (wmF M 8 (hI c))) fun M5 => bnd (some (wmF M5 9 (mF M5 5))) fun M6 => some M6) = some (wmF (wmF M 8 (hI c)) 9 (mF (wmF M 8 (hI c)) 5)) := by
    by_cases d : kd = 4
    · rw [if_pos d, hk4 d]; rfl
    · rw [if_neg d]; rfl
  refine ⟨_, _, rfl, e, ⟨c, c1, c2, ?_, ?_, ?_⟩, ⟨fun k hk => ?_, rfl, rfl⟩⟩
  · rw [mF_ne (by decide), mF_same]
  · rw [mF_ne (by decide), mF_same, iF_ne (by decide), iF_same]
  · rw [mF_same, iF_same, iF_ne (by decide), mF_ne (by decide), k3, k4]
  · rw [mF_ne (by omega), mF_ne (by omega)]
theorem t_looks (h : hAh n p0 I M) (l1 : 0 ≤ lo) (l2 : lo ≤ 9999) (u1 : -1 ≤ hi) (u2 : hi ≤ 9999) :
    (∃ v p I1, lo ≤ v ∧ v ≤ hi ∧ fI_expectNumber I (hI lo) (hI hi) = some (hI v, I1) ∧ fM_looks M (hI lo) (hI hi) = some (hI v, M) ∧ hAt n p I1 M ∧ iF I1 4 = hI 2 ∧ p0 < p) ∨
    (∃ I1 M1 w, fI_expectNumber I (hI lo) (hI hi) = some (hI (-1), I1) ∧ fM_looks M (hI lo) (hI hi) = some (w, M1) ∧ hEr I1 M1 ∧ fGo M M1) := by
  obtain ⟨p, I1, a1, a2, a3, a4⟩ := h
  obtain ⟨kd, k1, k2, k3, k4, k5⟩ := tok a2
  have g := at_good a2
  unfold fI_expectNumber fI_expectNumber_j36 fM_looks fM_looks_j20 fM_looks_j47
  rw [a1, bnd_s, g, if_pos rfl, if_pos rfl, k3, k4, show (2 : Int32) = hI 2 from rfl, show (1 : Int32) = hI 1 from rfl, hI_neg, ieq (by omega) (by omega) (by omega) (by omega), ieq (by omega) (by omega) (by omega) (by omega)]
  by_cases c2 : kd = 2
  · obtain ⟨v, v1, v2, v3, v4⟩ := k5.2.2.1 c2
    rw [if_pos c2, if_pos c2, v3, v4, ilt (by omega) (by omega) (by omega) (by omega), ilt (by omega) (by omega) (by omega) (by omega), isIn_d (by omega) (by omega) (by omega) (by omega) (by omega) (by omega)]
    by_cases ci : lo ≤ v ∧ v ≤ hi
    · rw [decide_eq_true ci, if_pos rfl, if_neg (show ¬ v < lo by omega), if_neg (show ¬ hi < v by omega)]
      exact Or.inl ⟨v, p, I1, ci.1, ci.2, rfl, rfl, a2, by rw [k3, c2], a4 (by rw [k3, c2]; decide)⟩
    · obtain ⟨I2, M2, b1, b2, b3, b4⟩ := t_fail a2 (c := 2) (by omega) (by omega) (fun e => by rw [k3, c2] at e; exact absurd e (by decide))
      rw [decide_eq_false ci, if_neg Bool.false_ne_true, b1, b2]
      have e : (if v < lo then bnd2 (some (false, I2)) fun v2 I1 => some (hI (-1), I1) else if hi < v then bnd2 (some (false, I2)) fun v2 I1 => some (hI (-1), I1) else some (hI v, I1)) = some (hI (-1), I2) := by
        by_cases d : v < lo
        · rw [if_pos d]; rfl
        · rw [if_neg d, if_pos (by omega)]; rfl
      rw [e]
      exact Or.inr ⟨_, _, _, rfl, rfl, b3, b4⟩
  · obtain ⟨I2, M2, b1, b2, b3, b4⟩ := t_fail a2 (c := 1) (by omega) (by omega) (fun _ => rfl)
    rw [if_neg c2, if_neg c2, b1, b2, bnd_s, er_good b3]
    exact Or.inr ⟨_, _, _, rfl, rfl, b3, b4⟩
theorem t_num (h : hAh n p0 I M) (l1 : 0 ≤ lo) (l2 : lo ≤ 9999) (u1 : -1 ≤ hi) (u2 : hi ≤ 9999) :
    (∃ v p1 I1 M1, lo ≤ v ∧ v ≤ hi ∧ fI_expectNumber I (hI lo) (hI hi) = some (hI v, I1) ∧ fM_number M (hI lo) (hI hi) = some (hI v, M1) ∧ hAh n p1 I1 M1 ∧ p0 < p1 ∧ fGo M M1) ∨
    (∃ I1 M1 w, fI_expectNumber I (hI lo) (hI hi) = some (hI (-1), I1) ∧ fM_number M (hI lo) (hI hi) = some (w, M1) ∧ hEr I1 M1 ∧ fGo M M1) := by
  unfold fM_number
  rcases t_looks h l1 l2 u1 u2 with ⟨v, p, I1, v1, v2, e1, e2, e3, -, e4⟩ | ⟨I1, M1, w, e1, e2, e3, e4⟩
  · obtain ⟨M1, b1, b2, b3⟩ := t_go e3
    rw [e1, e2]
    refine Or.inl ⟨v, p, I1, M1, v1, v2, rfl, ?_, b2, e4, b3⟩
    show (if fM_isGood M = true then _ else _) = _
    rw [at_good e3, if_pos rfl, b1]; rfl
  · rw [e1, e2]
    refine Or.inr ⟨I1, M1, w, rfl, ?_, e3, e4⟩
    show (if fM_isGood M1 = true then _ else _) = _
    rw [er_good e3]; rfl
theorem t_more (h : hAh n p0 I M) (l1 : 0 ≤ lo) (l2 : lo ≤ 9999) (u1 : -1 ≤ hi) (u2 : hi ≤ 9999) :
    (∃ v p1 I1 M1, lo ≤ v ∧ v ≤ hi ∧ fI_expectNumber I (hI lo) (hI hi) = some (hI v, I1) ∧ fM_more M (hI lo) (hI hi) = some (hI v, M1) ∧ hAh n p1 I1 M1 ∧ p0 < p1 ∧ fGo M M1) ∨
    (∃ I1 M1 w, fI_expectNumber I (hI lo) (hI hi) = some (hI (-1), I1) ∧ fM_more M (hI lo) (hI hi) = some (w, M1) ∧ hEr I1 M1 ∧ fGo M M1) := by
  rw [g_more (ah_good h)]
  exact t_num h l1 l2 u1 u2
theorem t_stays (h : hAh n p0 I M) (l1 : 0 ≤ lo) (l2 : lo ≤ 9999) (u1 : -1 ≤ hi) (u2 : hi ≤ 9999) :
    (∃ v p I1, lo ≤ v ∧ v ≤ hi ∧ fI_expectNumber I (hI lo) (hI hi) = some (hI v, I1) ∧ fM_stays M (hI lo) (hI hi) = some (hI v, M) ∧ hAt n p I1 M ∧ iF I1 4 = hI 2 ∧ p0 < p) ∨
    (∃ I1 M1 w, fI_expectNumber I (hI lo) (hI hi) = some (hI (-1), I1) ∧ fM_stays M (hI lo) (hI hi) = some (w, M1) ∧ hEr I1 M1 ∧ fGo M M1) := by
  rw [g_stays (ah_good h)]
  exact t_looks h l1 l2 u1 u2
theorem t_isSign (h : hAt n p I M) (c1 : 0 ≤ c) (c2 : c ≤ 100) : ∃ b, fI_isSign I (hI c) = b ∧ fM_isSign M (hI c) = b ∧ (b = true → iF I 4 = hI 3) := by
  obtain ⟨kd, k1, k2, k3, k4, k5⟩ := tok h
  unfold fI_isSign fM_isSign
  rw [h.2.2.2.2.2.1, k3, k4, show (0 : Int32) = hI 0 from rfl, show (3 : Int32) = hI 3 from rfl, if_pos rfl, ieq (by omega) (by omega) (by omega) (by omega), ieq (by omega) (by omega) (by omega) (by omega)]
  by_cases d : kd = 3
  · obtain ⟨u, u1, u2, u3⟩ := k5.2.2.2 d
    rw [if_pos d, if_pos d, u1, u2, ieq (by omega) (by omega) (by omega) (by omega)]
    exact ⟨_, rfl, rfl, fun _ => by rw [d]⟩
  · rw [if_neg d, if_neg d]
    exact ⟨_, rfl, rfl, fun z => absurd z Bool.false_ne_true⟩
theorem t_sign (h : hAh n p0 I M) (c1 : 0 ≤ c) (c2 : c ≤ 100) :
    (∃ p1 I1 M1, fI_expectSign I (hI c) = some (true, I1) ∧ fM_mustSign M (hI c) = some M1 ∧ hAh n p1 I1 M1 ∧ p0 < p1 ∧ fGo M M1) ∨
    (∃ I1 M1, fI_expectSign I (hI c) = some (false, I1) ∧ fM_mustSign M (hI c) = some M1 ∧ hEr I1 M1 ∧ fGo M M1) := by
  obtain ⟨p, I1, a1, a2, a3, a4⟩ := h
  have g := at_good a2
  obtain ⟨b, d1, d2, d3⟩ := t_isSign a2 c1 c2
  unfold fI_expectSign fM_mustSign fM_mustSign_j20
  rw [a1, bnd_s, g, if_pos rfl, if_pos rfl, d1, d2, show (1 : Int32) = hI 1 from rfl]
  cases b with
  | true =>
    obtain ⟨M1, b1, b2, b3⟩ := t_go a2
    rw [if_pos rfl, if_pos rfl, b1]
    exact Or.inl ⟨p, I1, M1, rfl, rfl, b2, a4 (by rw [d3 rfl]; decide), b3⟩
  | false =>
    obtain ⟨I2, M2, b1, b2, b3, b4⟩ := t_fail a2 (c := 1) (by omega) (by omega) (fun _ => rfl)
    rw [if_neg Bool.false_ne_true, if_neg Bool.false_ne_true, b1, b2, bnd_s, er_good b3]
    exact Or.inr ⟨I2, M2, rfl, rfl, b3, b4⟩
theorem t_word1 (h : hAh n p0 I M) :
    (∃ l p I1, hWd l ∧ fI_expectWord I = some (hL (p8 l), I1) ∧ fM_wordHere M = some (hL (p5 l), M) ∧ hAt n p I1 M ∧ iF I1 4 = hI 1 ∧ iN I1 = hL (p8 l) ∧ p0 < p) ∨
    (∃ I1 M1 w, fI_expectWord I = some (hL 0, I1) ∧ fM_wordHere M = some (w, M1) ∧ hEr I1 M1 ∧ fGo M M1) := by
  obtain ⟨p, I1, a1, a2, a3, a4⟩ := h
  obtain ⟨kd, k1, k2, k3, k4, k5⟩ := tok a2
  have g := at_good a2
  unfold fI_expectWord fM_wordHere fM_wordHere_j20
  rw [a1, bnd_s, g, if_pos rfl, k3, k4, show (1 : Int32) = hI 1 from rfl, ieq (by omega) (by omega) (by omega) (by omega), ieq (by omega) (by omega) (by omega) (by omega)]
  by_cases d : kd = 1
  · obtain ⟨l, l1, l2, l3⟩ := k5.1 d
    rw [if_pos d, if_pos d, l2, l3]
    exact Or.inl ⟨l, p, I1, l1, rfl, rfl, a2, by rw [k3, d], l2, a4 (by rw [k3, d]; decide)⟩
  · obtain ⟨I2, M2, b1, b2, b3, b4⟩ := t_fail a2 (c := 1) (by omega) (by omega) (fun _ => rfl)
    rw [if_neg d, if_neg d, b1, b2]
    exact Or.inr ⟨I2, M2, _, rfl, rfl, b3, b4⟩
theorem t_word2 (h : hAh n p0 I M) :
    (∃ l p I1, hWd l ∧ fI_expectWord I = some (hL (p8 l), I1) ∧ hAt n p I1 M ∧ iF I1 4 = hI 1 ∧ iN I1 = hL (p8 l) ∧ p0 < p) ∨
    (∃ I1 I2 M1, fI_expectWord I = some (hL 0, I1) ∧ fI_fail I1 (hI 1) = some (false, I2) ∧ fM_wrong M (hI 1) = some M1 ∧ (∀ w, fM_isWord M w = false) ∧ hEr I2 M1 ∧ fGo M M1) := by
  obtain ⟨p, I1, a1, a2, a3, a4⟩ := h
  obtain ⟨kd, k1, k2, k3, k4, k5⟩ := tok a2
  have g := at_good a2
  unfold fI_expectWord
  rw [a1, bnd_s, k3, show (1 : Int32) = hI 1 from rfl, ieq (by omega) (by omega) (by omega) (by omega)]
  by_cases d : kd = 1
  · obtain ⟨l, l1, l2, l3⟩ := k5.1 d
    rw [if_pos d, l2]
    exact Or.inl ⟨l, p, I1, l1, rfl, a2, by rw [k3, d], l2, a4 (by rw [k3, d]; decide)⟩
  · obtain ⟨I2, M2, b1, b2, b3, b4⟩ := t_fail a2 (c := 1) (by omega) (by omega) (fun _ => rfl)
    rw [if_neg d, b1, b2]
    have e : I2 = wiF (wiF I1 8 (hI 1)) 9 (iF (wiF I1 8 (hI 1)) 3) := by
      have b1' : some (false, wiF (wiF I1 8 (hI 1)) 9 (iF (wiF I1 8 (hI 1)) 3)) = some (false, I2) := b1
      injection b1' with b1''
      exact (Prod.mk.inj b1'').2.symm
    refine Or.inr ⟨I2, wiF (wiF I2 8 (hI 1)) 9 (iF (wiF I2 8 (hI 1)) 3), M2, rfl, rfl, rfl, fun w => ?_, ?_, b4⟩
    · unfold fM_isWord
      rw [a2.2.2.2.2.2.1, k4, show (0 : Int32) = hI 0 from rfl, show (1 : Int32) = hI 1 from rfl, if_pos rfl, ieq (by omega) (by omega) (by omega) (by omega), if_neg d]
    · obtain ⟨c, c1, c2, c3, c4, c5⟩ := b3
      refine ⟨c, c1, c2, c3, ?_, ?_⟩
      · rw [← c4, iF_ne (by decide), iF_same, e, iF_ne (by decide), iF_same]
      · rw [← c5, iF_same, iF_ne (by decide), e, iF_same, iF_ne (by decide), iF_ne (by decide)]
theorem t_kw {c8 c5 : Int64} (h : hAt n p I M) (l : List Int) (hl : hWd l) (e8 : c8 = hL (p8 l)) (e5 : c5 = hL (p5 l)) : (iN I = c8 ∧ fM_isWord M c5 = true) ∨ (iN I ≠ c8 ∧ fM_isWord M c5 = false) := by
  obtain ⟨kd, k1, k2, k3, k4, k5⟩ := tok h
  unfold fM_isWord
  rw [h.2.2.2.2.2.1, k4, show (0 : Int32) = hI 0 from rfl, show (1 : Int32) = hI 1 from rfl, if_pos rfl, ieq (by omega) (by omega) (by omega) (by omega), e8, e5]
  by_cases d : kd = 1
  · obtain ⟨l', l1, l2, l3⟩ := k5.1 d
    have h1 := nm_eq l1 hl
    rw [if_pos d, l2, l3]
    by_cases e : l' = l
    · rw [e, if_pos rfl]
      exact Or.inl ⟨rfl, rfl⟩
    · rw [if_neg (by rw [h1.2]; exact e)]
      exact Or.inr ⟨by rw [Ne, h1.1]; exact e, rfl⟩
  · have hp := p8_b hl
    have hp2 := p8_pos hl
    rw [if_neg d, k5.2.1 d]
    refine Or.inr ⟨fun e => ?_, rfl⟩
    rw [hL_eq (by omega) (by omega) (by omega) (by omega)] at e
    omega
theorem at_fr (h : hAt n p I M) (f : hfr M M1) : hAt n p I M1 := by
  obtain ⟨n1, n2, hb, e1, m3, m8, e8, e9, m9, q, kd, q1, q2, q3, k1, k2, k3, k4, k5, k6, k7, k8, k9, t1, t2, t3, t4⟩ := h
  have f8 := f.2.2.2 248 (by decide)
  refine ⟨n1, n2, fun k h1 h2 => ?_, e1, ?_, ?_, e8, e9, ?_, q, kd, q1, q2, q3, k1, ?_, k3, ?_, k5, k6, k7, ?_, k9, ?_, t2, ?_, ?_⟩
  · rw [f8]; exact hb k h1 h2
  · rw [f.1 3 (by decide)]; exact m3
  · rw [f.1 8 (by decide)]; exact m8
  · rw [f.1 9 (by decide)]; exact m9
  · rw [f.1 4 (by decide)]; exact k2
  · rw [f.1 5 (by decide)]; exact k4
  · rw [f.1 6 (by decide)]; exact k8
  · rw [f.2.1]; exact t1
  · rw [f.1 7 (by decide)]; exact t3
  · rw [f.1 7 (by decide)]; exact t4
theorem ah_fr (h : hAh n p I M) (f : hfr M M1) : hAh n p I M1 := by
  obtain ⟨p1, I1, a1, a2, a3⟩ := h
  exact ⟨p1, I1, a1, at_fr a2 f, a3⟩
/-- all that reading leaves alone -/
def fRd (M M1 : zM) : Prop := (∀ k, k < 4 ∨ 9 < k → k ≠ 29 → mF M1 k = mF M k) ∧ mB M1 = mB M ∧ ∀ a, a ≠ 249 → mA M1 a = mA M a
theorem fRd_tr (h1 : fRd M M1) (h2 : fRd M1 M2) : fRd M M2 := ⟨fun k hk e => (h2.1 k hk e).trans (h1.1 k hk e), h2.2.1.trans h1.2.1, fun a ha => (h2.2.2 a ha).trans (h1.2.2 a ha)⟩
theorem fRd_go (h : fGo M M1) : fRd M M1 := ⟨fun k hk _ => h.1 k hk, h.2.1, fun a _ => by rw [h.2.2]⟩
theorem fRd_fr (h : hfr M M1) : fRd M M1 := ⟨fun k _ e => h.1 k e, h.2.2.1, h.2.2.2⟩
theorem fRd_rf : fRd M M := ⟨fun _ _ _ => rfl, rfl, fun _ _ => rfl⟩
end HID

/-! THE PICTURE in the reference; printing; bytes of the output -/
section HHS
variable {σ τ : Int → Int} {M M1 M2 : zM} {G Go G1 : zG} {z v w k B b m d f x y : Int} {l : List Int} {I : zI} {Y : Nat → Int32} {Γ : Nat → zG} {D : zD} {O : Nat → Int32}
def pT3 (T S L : Prop) (r : Int) : Prop := (T ∧ r = 120) ∨ (¬ T ∧ ((S ∧ r = 43) ∨ (¬ S ∧ ((L ∧ r = 97) ∨ (¬ L ∧ r = 46)))))
theorem pT3_c {T S L T' S' L' : Prop} {r : Int} (h : pT3 T S L r) (e1 : T ↔ T') (e2 : S ↔ S') (e3 : L ↔ L') : pT3 T' S' L' r := by
  rw [← propext e1, ← propext e2, ← propext e3]
  exact h
theorem pT3_0 {T S L T' S' L' : Prop} {s : Int} (h : pT3 T S L s) (hts : T' → S') (hs : ¬ S') (hl : s = 46 → ¬ L') : pT3 (T ∨ T') (S ∨ S') (L ∨ L') s := by
  have ht : ¬ T' := fun z => hs (hts z)
  unfold pT3 at h ⊢
  rcases h with ⟨a, rfl⟩ | ⟨a, ⟨b, rfl⟩ | ⟨b, ⟨c, rfl⟩ | ⟨c, rfl⟩⟩⟩
  · exact Or.inl ⟨Or.inl a, rfl⟩
  · exact Or.inr ⟨fun z => z.elim a ht, Or.inl ⟨Or.inl b, rfl⟩⟩
  · exact Or.inr ⟨fun z => z.elim a ht, Or.inr ⟨fun z => z.elim b hs, Or.inl ⟨Or.inl c, rfl⟩⟩⟩
  · exact Or.inr ⟨fun z => z.elim a ht, Or.inr ⟨fun z => z.elim b hs, Or.inr ⟨fun z => z.elim c (hl rfl), rfl⟩⟩⟩
theorem pT3_l {T S L T' S' L' : Prop} (h : pT3 T S L 46) (hts : T' → S') (hs : ¬ S') (hl : L') : pT3 (T ∨ T') (S ∨ S') (L ∨ L') 97 := by
  have ht : ¬ T' := fun z => hs (hts z)
  unfold pT3 at h ⊢
  rcases h with ⟨a, e⟩ | ⟨a, ⟨b, e⟩ | ⟨b, ⟨c, e⟩ | ⟨c, e⟩⟩⟩
  · omega
  · omega
  · omega
  · exact Or.inr ⟨fun z => z.elim a ht, Or.inr ⟨fun z => z.elim b hs, Or.inl ⟨Or.inr hl, rfl⟩⟩⟩
theorem pT3_k {T S L T' S' L' : Prop} (h : pT3 T S L 120) : pT3 (T ∨ T') (S ∨ S') (L ∨ L') 120 := by
  unfold pT3 at h ⊢
  rcases h with ⟨a, e⟩ | ⟨a, ⟨b, e⟩ | ⟨b, ⟨c, e⟩ | ⟨c, e⟩⟩⟩
  · exact Or.inl ⟨Or.inl a, rfl⟩
  · omega
  · omega
  · omega
theorem pT3_t {T S L T' S' L' : Prop} (ht : T') : pT3 (T ∨ T') (S ∨ S') (L ∨ L') 120 := Or.inl ⟨Or.inr ht, rfl⟩
theorem pT3_s {T S L T' S' L' : Prop} {s : Int} (h : pT3 T S L s) (hs : s ≠ 120) (h1 : S') (ht : ¬ T') : pT3 (T ∨ T') (S ∨ S') (L ∨ L') 43 := by
  unfold pT3 at h ⊢
  rcases h with ⟨a, e⟩ | ⟨a, -⟩
  · exact absurd e hs
  · exact Or.inr ⟨fun z => z.elim a ht, Or.inl ⟨Or.inr h1, rfl⟩⟩
def pS (σ : Int → Int) (m : Int) : Prop := ∃ k, 0 ≤ k ∧ k < σ 0 ∧ bg σ k = m
def pL (σ : Int → Int) (b m : Int) : Prop := ∃ k, 0 ≤ k ∧ k < σ 2 ∧ mt σ k b m m
/-- in ten meridians, up to one of them -/
def pR (P : Int → Prop) (lo n : Int) : Prop := ∃ m, lo ≤ m ∧ m < lo + n ∧ P m
theorem pR_s {P : Int → Prop} {lo : Int} {i : Nat} : pR P lo ((i + 1 : Nat) : Int) ↔ (pR P lo i ∨ P (lo + i)) := by
  constructor
  · rintro ⟨m, m1, m2, m3⟩
    by_cases e : m = lo + i
    · subst e; exact Or.inr m3
    · exact Or.inl ⟨m, m1, by omega, m3⟩
  · rintro (⟨m, m1, m2, m3⟩ | h)
    · exact ⟨m, m1, by omega, m3⟩
    · exact ⟨lo + i, by omega, by omega, h⟩
theorem tA_S (h : tA σ m) : pS σ m := by
  obtain ⟨k, a, b, c, -⟩ := h
  exact ⟨k, a, b, c⟩
theorem m_byteOf {lo : Int} (h : hV B (hm M)) (b1 : 0 ≤ b) (b2 : b < 9) (l1 : 0 ≤ lo) (l2 : lo ≤ 350) : ∃ r, fM_byteOf M (hI b) (hI lo) = some (hI r) ∧ pB (hm M) b lo r := by
  have hq := h.2.1 b b1 b2
  have h0 := h.1.1
  have hc2 := h.1.2.2.1
  have key : ∃ r, iter (fun s => fM_byteOf_b6 M (hI b) (hI lo) s.1 s.2) fu (hI 46, hI lo) = some r ∧ ∃ x, r = hI x ∧ pB (hm M) b lo x := by
    refine it_one 10 (fun i s => ∃ c : Int, s = (hI c, hI (lo + i)) ∧ 0 ≤ c ∧ c < 200 ∧ pT3 (pR (tA (hm M)) lo i) (pR (pS (hm M)) lo i) (pR (pL (hm M) b) lo i) c) _ (by omega) ⟨46, by rw [show lo + ((0 : Nat) : Int) = lo by omega], by omega, by omega, ?_⟩ ?_
    · exact Or.inr ⟨fun ⟨m, a, b, _⟩ => by omega, Or.inr ⟨fun ⟨m, a, b, _⟩ => by omega, Or.inr ⟨fun ⟨m, a, b, _⟩ => by omega, rfl⟩⟩⟩
    rintro i s hi ⟨c, rfl, c1, c2, hP⟩
    have hi3 : i ≤ 10 := hi
    unfold fM_byteOf_b6
    dsimp only
    rw [show (10 : Int32) = hI 10 from rfl, hI_add, ilt (by omega) (by omega) (by omega) (by omega)]
    by_cases ci : lo + i < lo + 10
    · rw [if_pos ci, show (46 : Int32) = hI 46 from rfl, ieq (by omega) (by omega) (by omega) (by omega)]
      have i9 : i < 10 := by omega
      obtain ⟨t, et, ht⟩ := m_tornAt (m := lo + i) h (by omega) (by omega)
      obtain ⟨q, eq1, hq1⟩ := m_seamAt (m := lo + i) h (by omega) (by omega)
      obtain ⟨u, eu, hu1⟩ := m_on (m := lo + i) h b1 b2 (by omega) (by omega)
      have nx : ∀ r : Int, 0 ≤ r → r < 200 → pT3 (pR (tA (hm M)) lo i ∨ tA (hm M) (lo + i)) (pR (pS (hm M)) lo i ∨ pS (hm M) (lo + i)) (pR (pL (hm M) b) lo i ∨ pL (hm M) b (lo + i)) r → ∃ c : Int, (hI r, hI (lo + i + 1)) = (hI c, hI (lo + ((i + 1 : Nat) : Int))) ∧ 0 ≤ c ∧ c < 200 ∧ pT3 (pR (tA (hm M)) lo ((i + 1 : Nat) : Int)) (pR (pS (hm M)) lo ((i + 1 : Nat) : Int)) (pR (pL (hm M) b) lo ((i + 1 : Nat) : Int)) c := by
        intro r r1 r2 hp
        refine ⟨r, by rw [show lo + (i : Int) + 1 = lo + ((i + 1 : Nat) : Int) by omega], r1, r2, pT3_c hp pR_s.symm pR_s.symm pR_s.symm⟩
      -- the seam's part, from a sign
      have seam : ∀ s1 : Int, 0 ≤ s1 → s1 < 200 → (¬ pS (hm M) (lo + i) → pT3 (pR (tA (hm M)) lo i ∨ tA (hm M) (lo + i)) (pR (pS (hm M)) lo i ∨ pS (hm M) (lo + i)) (pR (pL (hm M) b) lo i ∨ pL (hm M) b (lo + i)) s1) → (s1 = 120 → c = 120) → (s1 ≠ 120 → c ≠ 120) → ∃ r, fM_byteOf_j35 M (hI b) (hI lo) (hI s1) (hI (lo + i)) = some (.inl (hI r, hI (lo + i + 1))) ∧ 0 ≤ r ∧ r < 200 ∧ pT3 (pR (tA (hm M)) lo i ∨ tA (hm M) (lo + i)) (pR (pS (hm M)) lo i ∨ pS (hm M) (lo + i)) (pR (pL (hm M) b) lo i ∨ pL (hm M) b (lo + i)) r := by
        intro s1 s11 s12 hs1 hk hn
        unfold fM_byteOf_j35
        rw [eq1, bnd_s, show (1 : Int32) = hI 1 from rfl, hI_neg, hI_add, show (120 : Int32) = hI 120 from rfl]
        rcases hq1 with ⟨q1, q2, q3⟩ | ⟨rfl, q3⟩
        · have hS : pS (hm M) (lo + i) := ⟨q, q1, q2, q3⟩
          rw [ieq (by omega) (by omega) (by omega) (by omega), if_neg (by omega), ieq (by omega) (by omega) (by omega) (by omega)]
          by_cases e : s1 = 120
          · rw [if_pos e]
            refine ⟨s1, rfl, s11, s12, ?_⟩
            rw [e]
            have := hk e
            rw [this] at hP
            exact pT3_k hP
          · rw [if_neg e, et, bnd_s]
            cases t with
            | true => exact ⟨120, rfl, by omega, by omega, pT3_t (ht.mp rfl)⟩
            | false => exact ⟨43, rfl, by omega, by omega, pT3_s hP (hn e) hS (fun z => Bool.noConfusion (ht.mpr z))⟩
        · rw [if_pos rfl]
          exact ⟨s1, rfl, s11, s12, hs1 (fun ⟨k, k1, k2, k3⟩ => q3 k k1 k2 k3)⟩
      by_cases c46 : c = 46
      · rw [if_pos c46, eu, bnd_s, show (1 : Int32) = hI 1 from rfl, hI_neg]
        rcases hu1 with ⟨u1, u2, u3, -⟩ | ⟨rfl, u3⟩
        · have hL : pL (hm M) b (lo + i) := ⟨u, u1, u2, u3⟩
          obtain ⟨r, e, r1, r2, r3⟩ := seam 97 (by omega) (by omega) (fun hs => by rw [c46] at hP; exact pT3_l hP tA_S hs hL) (fun z => by omega) (fun z => by omega)
          rw [ieq (by omega) (by omega) (by omega) (by omega), if_neg (by omega), show (97 : Int32) = hI 97 from rfl, e]
          exact Or.inl ⟨i9, _, rfl, nx r r1 r2 r3⟩
        · have hL : ¬ pL (hm M) b (lo + i) := fun ⟨k, k1, k2, k3⟩ => u3 k k1 k2 k3
          obtain ⟨r, e, r1, r2, r3⟩ := seam c c1 c2 (fun hs => pT3_0 hP tA_S hs (fun _ => hL)) (fun z => z) (fun z => z)
          rw [if_pos rfl, e]
          exact Or.inl ⟨i9, _, rfl, nx r r1 r2 r3⟩
      · rw [if_neg c46]
        obtain ⟨r, e, r1, r2, r3⟩ := seam c c1 c2 (fun hs => pT3_0 hP tA_S hs (fun z => absurd z c46)) (fun z => z) (fun z => z)
        rw [e]
        exact Or.inl ⟨i9, _, rfl, nx r r1 r2 r3⟩
    · have e10 : (i : Int) = 10 := by omega
      rw [e10] at hP
      rw [if_neg ci, show (5 : Int32) = hI 5 from rfl, hI_add, mrd (by omega) (by omega), bnd_s, show (9 : Int32) = hI 9 from rfl, hI_add, isIn_d (by omega) (by omega) (by omega) (by omega) (by omega) (by omega)]
      by_cases ch : lo ≤ hm M (5 + b) ∧ hm M (5 + b) ≤ lo + 9
      · rw [decide_eq_true ch, if_pos rfl]
        exact Or.inr ⟨_, rfl, 72, rfl, Or.inl ⟨ch.1, ch.2, rfl⟩⟩
      · rw [decide_eq_false ch, if_neg (by decide)]
        refine Or.inr ⟨_, rfl, c, rfl, Or.inr ⟨ch, ?_⟩⟩
        have := pT3_c hP (T' := ∃ m, lo ≤ m ∧ m ≤ lo + 9 ∧ tA (hm M) m) (S' := ∃ k, 0 ≤ k ∧ k < hm M 0 ∧ lo ≤ bg (hm M) k ∧ bg (hm M) k ≤ lo + 9) (L' := ∃ k, 0 ≤ k ∧ k < hm M 2 ∧ mt (hm M) k b lo (lo + 9)) ⟨fun ⟨m, a, b, c⟩ => ⟨m, a, by omega, c⟩, fun ⟨m, a, b, c⟩ => ⟨m, a, by omega, c⟩⟩ ⟨fun ⟨m, a, b, k, k1, k2, k3⟩ => ⟨k, k1, k2, by omega, by omega⟩, fun ⟨k, k1, k2, k3, k4⟩ => ⟨bg (hm M) k, k3, by omega, k, k1, k2, rfl⟩⟩ ⟨?_, ?_⟩
        · exact this
        · rintro ⟨m, a, b, k, k1, k2, k3, k4, k5, k6⟩
          exact ⟨k, k1, k2, k3, k4, by omega, by omega⟩
        · rintro ⟨k, k1, k2, k3, k4, k5, k6⟩
          have hl := h.2.2.2.2.1 k k1 k2
          unfold hVl at hl
          by_cases e : lo ≤ hm M (128 + 4 * k + 1)
          · exact ⟨hm M (128 + 4 * k + 1), e, by omega, k, k1, k2, k3, k4, by omega, by omega⟩
          · exact ⟨lo, by omega, by omega, k, k1, k2, k3, k4, by omega, by omega⟩
  obtain ⟨r, e, x, rfl, hx⟩ := key
  exact ⟨x, e, hx⟩
theorem t_picture {lo : Int} (hr : hR G (hm M)) (h : hV B (hm M)) (b1 : 0 ≤ b) (b2 : b < 9) (l1 : 0 ≤ lo) (l2 : lo ≤ 350) : ∃ r, fG_pictureOf G (hI b) (hI lo) (hI (lo + 9)) = some (hI r) ∧ fM_byteOf M (hI b) (hI lo) = some (hI r) ∧ 0 ≤ r ∧ r < 128 := by
  obtain ⟨r, e1, h1⟩ := g_picture hr h b1 b2 l1 l2
  obtain ⟨r', e2, h2⟩ := m_byteOf h b1 b2 l1 l2
  have := pB_u h1 h2
  subst this
  refine ⟨r, e1, e2, ?_⟩
  rcases h1 with ⟨-, -, rfl⟩ | ⟨-, ⟨-, rfl⟩ | ⟨-, ⟨-, rfl⟩ | ⟨-, ⟨-, rfl⟩ | ⟨-, rfl⟩⟩⟩⟩ <;> omega
/-- the output on both sides -/
def hOu (D : zD) (O : Nat → Int32) (M : zM) : Prop := ∃ p : Int, 0 ≤ p ∧ p ≤ 37 ∧ D.2 = hI p ∧ mF M 31 = hI p ∧ ∀ k : Int, 0 ≤ k → k < p → O k.toNat = mA M 260 k.toNat
theorem nar_I {r : Int} (h1 : 0 ≤ r) (h2 : r < 128) : vp_nar .byte (hI r) = hI r ∧ Int8.toInt32 (Int32.toInt8 (hI r)) = hI r := by
  have e : Int8.toInt32 (Int32.toInt8 (hI r)) = hI r := by
    obtain ⟨n, rfl⟩ := hL_int h1
    have : ∀ n : Fin 128, Int8.toInt32 (Int32.toInt8 (hI ((n.val : Nat) : Int))) = hI ((n.val : Nat) : Int) := by decide
    exact this ⟨n, by omega⟩
  have e2 : vp_nar .byte (hI r) = hI r := by
    obtain ⟨n, rfl⟩ := hL_int h1
    have : ∀ n : Fin 128, vp_nar .byte (hI ((n.val : Nat) : Int)) = hI ((n.val : Nat) : Int) := by decide
    exact this ⟨n, by omega⟩
  exact ⟨e2, e⟩
theorem t_print (hg : hG B (Γ 10) (hm M)) (x1 : -2147483648 ≤ x) (x2 : x < 2147483648) : (∃ D1 O1 M1, fX_printBand Γ D O (hI x) = some (.inl (hI 37), D1, O1) ∧ fM_printBand M (hI x) = some (hI 37, M1) ∧ mF M1 0 = hI 0 ∧ D1.1 = D.1 ∧ hOu D1 O1 M1 ∧ (∀ k, k ≠ 0 → k ≠ 31 → mF M1 k = mF M k) ∧ mN M1 = mN M ∧ mB M1 = mB M ∧ ∀ a, a ≠ 260 → mA M1 a = mA M a) ∨ (fX_printBand Γ D O (hI x) = some (.inr eA, D, O) ∧ fM_printBand M (hI x) = some (hI 0, wmF M 0 1)) := by
  obtain ⟨hr, h, -⟩ := hg
  unfold fX_printBand fM_printBand
  by_cases c : 0 ≤ x ∧ x < 9
  · refine Or.inl ?_
    rw [need_band_t c, bnx_l, Mband_d x1 x2, decide_eq_true c, goes_t, bnd2_s, if_pos rfl]
    have key : ∃ r1 r2, iter (fun s => fX_printBand_b6 Γ D (hI x) s.1 s.2) fu (O, hI 0) = some r1 ∧ iter (fun s => fM_printBand_b15 (hI x) s.1 s.2) fu (wmF M 0 0, hI 0) = some r2 ∧ ∃ D1 O1 M1, r1 = (.inl (hI 37), D1, O1) ∧ r2 = (hI 37, M1) ∧ mF M1 0 = hI 0 ∧ D1.1 = D.1 ∧ hOu D1 O1 M1 ∧ (∀ k, k ≠ 0 → k ≠ 31 → mF M1 k = mF M k) ∧ mN M1 = mN M ∧ mB M1 = mB M ∧ ∀ a, a ≠ 260 → mA M1 a = mA M a := by
      refine it_two 36 (fun i s1 s2 => ∃ O1 g, s1 = (O1, hI i) ∧ s2 = (wmA (wmF M 0 0) 260 g, hI i) ∧ ∀ k : Int, 0 ≤ k → k < i → O1 k.toNat = g k.toNat) _ (by omega) ⟨O, mA (wmF M 0 0) 260, rfl, by rw [wmA_self]; rfl, fun k k1 k2 => by omega⟩ ?_
      rintro i s1 s2 hi ⟨O1, g, rfl, rfl, ho⟩
      unfold fX_printBand_b6 fM_printBand_b15
      dsimp only
      rw [show (36 : Int32) = hI 36 from rfl, ilt (by omega) (by omega) (by omega) (by omega), ilt (by omega) (by omega) (by omega) (by omega)]
      by_cases ci : (i : Int) < 36
      · have hr2 : hR (Γ 10) (hm (wmA (wmF M 0 0) 260 g)) := by unfold hm; rw [mA_ne (by decide)]; exact hr
        have hV2 : hV B (hm (wmA (wmF M 0 0) 260 g)) := by unfold hm; rw [mA_ne (by decide)]; exact h
        obtain ⟨r, e1, e2, r1, r2⟩ := t_picture (lo := 10 * (i : Int)) hr2 hV2 c.1 c.2 (by omega) (by omega)
        have n1 := nar_I r1 r2
        rw [if_pos ci, if_pos ci, show (10 : Int32) = hI 10 from rfl, show (1 : Int32) = hI 1 from rfl, hI_mul, hI_mul, hI_add, hI_sub, show (i : Int) * 10 = 10 * i by omega, show 10 * (i : Int) + 10 - 1 = 10 * i + 9 by omega, e1, e2, bnd_s, bnd_s, n1.2, wrb_hI (by omega) (by omega) (by omega), n1.1, bnd_s, bnd_s, mA_same, wr_hI (by omega) (by omega) (by omega), bnd_s, bnd_s, wmA_wmA, hI_add]
        refine Or.inl ⟨by omega, _, _, rfl, rfl, _, _, rfl, rfl, fun k k1 k2 => ?_⟩
        rw [upd_w, upd_w]
        by_cases e : k = i
        · subst e; rw [if_pos rfl, if_pos rfl]
        · rw [if_neg (by omega), if_neg (by omega)]; exact ho k k1 (by omega)
      · rw [if_neg ci, if_neg ci]
        have n10 := nar_I (r := 10) (by omega) (by omega)
        refine Or.inr ⟨_, _, rfl, rfl, (D.1, 37), upd O1 36 (hI 10), wmF (wmA (wmF M 0 0) 260 (upd g 36 (hI 10))) 31 (hI 37), ?_, ?_, ?_, rfl, ?_, ?_, rfl, rfl, ?_⟩
        · have e : vp_nar .byte 10 = hI 10 := n10.1
          rw [e]; rfl
        · rw [mA_same, wmA_wmA]; rfl
        · rw [mF_ne (by decide), mF_wA, mF_same]; rfl
        · refine ⟨37, by omega, by omega, rfl, mF_same, fun k k1 k2 => ?_⟩
          rw [mA_wF, mA_same, upd_w, upd_w]
          by_cases e : k.toNat = 36
          · rw [if_pos e, if_pos e]
          · rw [if_neg e, if_neg e]; exact ho k k1 (by omega)
        · intro k k0 k31
          rw [mF_ne k31, mF_wA, mF_ne k0]
        · intro a ha
          rw [mA_wF, mA_ne ha, mA_wF]
    obtain ⟨r1, r2, q1, q2, D1, O1, M1, z1, z2, rest⟩ := key
    subst z1 z2
    exact ⟨D1, O1, M1, q1, q2, rest⟩
  · refine Or.inr ⟨?_, ?_⟩
    · rw [need_band_f x1 x2 c, bnx_r]
    · rw [Mband_d x1 x2, decide_eq_false c, goes_f]; rfl
theorem q_outputByte (ho : hOu D O M) (x1 : -2147483648 ≤ x) (x2 : x < 2147483648) : QR M eX "" (fX_outputByte D O (hI x)) (fM_outputByte M (hI x)) (fun p q => p = q) := by
  obtain ⟨p, p1, p2, e1, e2, ho⟩ := ho
  unfold fX_outputByte fM_outputByte fX_outputByte_j12
  rw [e1, e2, show (0 : Int32) = hI 0 from rfl, show (1 : Int32) = hI 1 from rfl, show (0 : Int64) = hL 0 from rfl, hI_sub, hI_long (show -2147483648 ≤ p - 1 by omega) (by omega), isIn_e x1 x2 (by omega) (by omega) (by omega) (by omega), ilt x1 x2 (by omega) (by omega), ilt x1 x2 (by omega) (by omega)]
  by_cases c : 0 ≤ x ∧ x ≤ p - 1
  · refine Or.inl ⟨O x.toNat, O x.toNat, ?_, ?_, rfl⟩
    · rw [if_neg (by omega), if_pos (by omega), rd_hI (by omega) (by omega) (by omega), bnd_s]
    · rw [decide_eq_true c, goes_t, bnd2_s, if_pos rfl, rd_hI (by omega) (by omega) (by omega), bnd_s, mA_wF, ho x c.1 (by omega)]
  · refine Or.inr (Or.inl ⟨0, ?_, ?_⟩)
    · by_cases c1 : x < 0
      · rw [if_pos c1]; rfl
      · rw [if_neg c1, if_neg (by omega)]; rfl
    · rw [decide_eq_false c, goes_f]; rfl
end HHS

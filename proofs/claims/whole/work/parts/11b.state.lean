/-! THE STATE as a row of integers: what the reference keeps, and how a Globe of the class holds the same -/
section HHB
def hrw (f : Nat → Int32) (o : Int) : Int → Int := fun w => if 0 ≤ w ∧ w < 160 then (f (o + w).toNat).toInt else 0
def hm (M : zM) : Int → Int := hrw (mA M 249) 0
def hw (v : Int) : Int := (hI v).toInt
def hu (σ : Int → Int) (z v : Int) : Int → Int := fun w => if w = z then hw v else σ w
def mW (M : zM) (z v : Int) : zM := wmA M 249 (upd (mA M 249) z.toNat (hI v))
variable {σ τ : Int → Int} {M M1 M2 : zM} {G : zG} {z v w k B : Int}
theorem hI_hw : hI (hw v) = hI v := hI_of _
theorem hw_id (h1 : -2147483648 ≤ v) (h2 : v < 2147483648) : hw v = v := hI_v h1 h2
theorem hw_r : -2147483648 ≤ hw v ∧ hw v < 2147483648 := ⟨Int32.le_toInt _, Int32.toInt_lt _⟩
theorem hu_same : hu σ z v z = hw v := if_pos rfl
theorem hu_ne (h : w ≠ z) : hu σ z v w = σ w := if_neg h
theorem hrw_r {f : Nat → Int32} {o : Int} : -2147483648 ≤ hrw f o w ∧ hrw f o w < 2147483648 := by
  unfold hrw
  split
  · exact ⟨Int32.le_toInt _, Int32.toInt_lt _⟩
  · omega
theorem hm_r : -2147483648 ≤ hm M w ∧ hm M w < 2147483648 := hrw_r
theorem hrw_at {f : Nat → Int32} {o : Int} (h1 : 0 ≤ w) (h2 : w < 160) : f (o + w).toNat = hI (hrw f o w) := by
  unfold hrw
  rw [if_pos ⟨h1, h2⟩, hI_of]
theorem hm_at (h1 : 0 ≤ w) (h2 : w < 160) : mA M 249 w.toNat = hI (hm M w) := by
  have := hrw_at (f := mA M 249) (o := 0) h1 h2
  rw [Int.zero_add] at this
  exact this
theorem hm_set {f : Nat → Int32} (h1 : 0 ≤ z) (h2 : z < 160) : hrw (upd f z.toNat (hI v)) 0 = hu (hrw f 0) z v := by
  funext w
  unfold hu
  unfold hrw upd
  by_cases hw0 : 0 ≤ w ∧ w < 160
  · rw [if_pos hw0, if_pos hw0]
    by_cases e : w = z
    · subst e
      rw [if_pos rfl, Int.zero_add, if_pos rfl]
      rfl
    · rw [if_neg e, Int.zero_add, if_neg (by omega)]
  · rw [if_neg hw0, if_neg hw0]
    by_cases e : w = z
    · omega
    · rw [if_neg e]
theorem hm_mW (h1 : 0 ≤ z) (h2 : z < 160) : hm (mW M z v) = hu (hm M) z v := hm_set h1 h2
theorem hm_W {f : Nat → Int32} : hm (wmA M 249 f) = hrw f 0 := by
  unfold hm wmA mA
  dsimp only
  rw [z1_same]
/-- the reference reads and writes -/
theorem mrd (h1 : 0 ≤ z) (h2 : z < 160) : rd 160 (mA M 249) (hI z) = some (hI (hm M z)) := by
  rw [rd_hI h1 (by omega) (by omega), hm_at h1 h2]
theorem mwr (h1 : 0 ≤ z) (h2 : z < 160) : wr 160 (mA M 249) (hI z) (hI v) = some (upd (mA M 249) z.toNat (hI v)) := wr_hI h1 (by omega) (by omega)
theorem mW_of : wmA M 249 (upd (mA M 249) z.toNat (hI v)) = mW M z v := rfl
theorem mW_1 : wmA M 249 (upd (mA M 249) 1 (hI v)) = mW M 1 v := rfl
theorem mW_2 : wmA M 249 (upd (mA M 249) 2 (hI v)) = mW M 2 v := rfl
theorem mW_3 : wmA M 249 (upd (mA M 249) 3 (hI v)) = mW M 3 v := rfl
theorem mW_4 : wmA M 249 (upd (mA M 249) 4 (hI v)) = mW M 4 v := rfl
theorem mW_0 : wmA M 249 (upd (mA M 249) 0 (hI v)) = mW M 0 v := rfl
theorem m_0 : mA M 249 0 = hI (hm M 0) := hm_at (w := 0) (by decide) (by decide)
theorem m_1 : mA M 249 1 = hI (hm M 1) := hm_at (w := 1) (by decide) (by decide)
theorem m_2 : mA M 249 2 = hI (hm M 2) := hm_at (w := 2) (by decide) (by decide)
theorem m_3 : mA M 249 3 = hI (hm M 3) := hm_at (w := 3) (by decide) (by decide)
theorem m_4 : mA M 249 4 = hI (hm M 4) := hm_at (w := 4) (by decide) (by decide)
/-- all but the row and the last answer is as it was -/
def hfr (M M1 : zM) : Prop := (∀ k, k ≠ 29 → mF M1 k = mF M k) ∧ mN M1 = mN M ∧ mB M1 = mB M ∧ ∀ a, a ≠ 249 → mA M1 a = mA M a
theorem hfr_rf : hfr M M := ⟨fun _ _ => rfl, rfl, rfl, fun _ _ => rfl⟩
theorem hfr_tr (h1 : hfr M M1) (h2 : hfr M1 M2) : hfr M M2 :=
  ⟨fun k h => (h2.1 k h).trans (h1.1 k h), h2.2.1.trans h1.2.1, h2.2.2.1.trans h1.2.2.1, fun a h => (h2.2.2.2 a h).trans (h1.2.2.2 a h)⟩
theorem hfr_W (h : hfr M M1) : hfr M (mW M1 z v) :=
  hfr_tr h ⟨fun _ _ => rfl, rfl, rfl, fun _ h => z1_ne h⟩
theorem hfr_L {x : Int32} (h : hfr M M1) : hfr M (wmF M1 29 x) :=
  hfr_tr h ⟨fun _ h => z1_ne h, rfl, rfl, fun _ _ => rfl⟩
theorem hm_L {x : Int32} {k : Nat} : hm (wmF M k x) = hm M := rfl
/-- where a gore begins -/
def bgN (σ : Int → Int) : Nat → Int
  | 0 => 0
  | n + 1 => bgN σ n + σ (14 + n)
def bg (σ : Int → Int) (k : Int) : Int := bgN σ k.toNat
theorem bg_0 : bg σ 0 = 0 := rfl
theorem bg_s (h : 0 ≤ k) : bg σ (k + 1) = bg σ k + σ (14 + k) := by
  unfold bg
  rw [show (k + 1).toNat = k.toNat + 1 by omega]
  show bgN σ k.toNat + σ (14 + (k.toNat : Int)) = _
  rw [show ((k.toNat : Nat) : Int) = k by omega]
theorem bgN_c (n : Nat) (h : ∀ w : Int, 14 ≤ w → w < 14 + n → σ w = τ w) : bgN σ n = bgN τ n := by
  induction n with
  | zero => rfl
  | succ n ih =>
    show bgN σ n + σ (14 + n) = bgN τ n + τ (14 + n)
    rw [ih (fun w h1 h2 => h w h1 (by omega)), h (14 + n) (by omega) (by omega)]
theorem bg_c (h : ∀ w : Int, 14 ≤ w → w < 14 + k → σ w = τ w) : bg σ k = bg τ k := bgN_c _ (fun w h1 h2 => h w h1 (by omega))
theorem bg_u (h : z < 14 ∨ 14 + k ≤ z) : bg (hu σ z v) k = bg σ k := bg_c (fun w h1 h2 => hu_ne (by omega))
/-- words -/
def hWd (l : List Int) : Prop := 1 ≤ l.length ∧ l.length ≤ 8 ∧ ∀ c ∈ l, 1 ≤ c ∧ c ≤ 26
def pk (b d : Int) (l : List Int) : Int := l.foldl (fun x c => x * b + (d + c)) 0
def p5 (l : List Int) : Int := pk 32 0 l
def p8 (l : List Int) : Int := pk 256 96 l
/-- what always holds of a state -/
def hVs (σ : Int → Int) (k : Int) : Prop := (σ (38 + 9 * k + 2) = 0 ∨ σ (38 + 9 * k + 2) = 1) ∧ (0 ≤ σ (38 + 9 * k + 3) ∧ σ (38 + 9 * k + 3) < 9) ∧ (0 ≤ σ (38 + 9 * k + 4) ∧ σ (38 + 9 * k + 4) < 360) ∧ (σ (38 + 9 * k + 6) = 0 ∨ σ (38 + 9 * k + 6) = 1) ∧ (0 ≤ σ (38 + 9 * k + 7) ∧ σ (38 + 9 * k + 7) < 360) ∧ (σ (38 + 9 * k + 2) = 1 ∨ σ (38 + 9 * k + 7) = 0)
def hVl (σ : Int → Int) (k : Int) : Prop := (0 ≤ σ (128 + 4 * k + 0) ∧ σ (128 + 4 * k + 0) < 9) ∧ 0 ≤ σ (128 + 4 * k + 1) ∧ 1 ≤ σ (128 + 4 * k + 2) ∧ σ (128 + 4 * k + 1) + σ (128 + 4 * k + 2) ≤ 360 ∧ (σ (128 + 4 * k + 3) = 0 ∨ σ (128 + 4 * k + 3) = 1)
def hV (B : Int) (σ : Int → Int) : Prop :=
  ((0 ≤ σ 0 ∧ σ 0 ≤ 12) ∧ (0 ≤ σ 1 ∧ σ 1 ≤ 10) ∧ (0 ≤ σ 2 ∧ σ 2 ≤ 8) ∧ (0 ≤ σ 4 ∧ σ 4 ≤ B)) ∧
  (∀ b : Int, 0 ≤ b → b < 9 → 1 ≤ σ (5 + b) ∧ σ (5 + b) < 360) ∧
  (∀ k : Int, 0 ≤ k → k < σ 0 → (10 ≤ σ (14 + k) ∧ σ (14 + k) ≤ 350) ∧ (0 ≤ σ (26 + k) ∧ σ (26 + k) ≤ 99) ∧ bg σ (k + 1) ≤ 360) ∧
  (∀ k : Int, 0 ≤ k → k < σ 1 → hVs σ k) ∧
  (∀ k : Int, 0 ≤ k → k < σ 2 → hVl σ k) ∧
  (∀ j k : Int, 0 ≤ j → j < k → k < σ 2 → σ (128 + 4 * j + 3) = 0 → σ (128 + 4 * k + 3) = 0 → σ (128 + 4 * j + 0) = σ (128 + 4 * k + 0) → σ (128 + 4 * j + 1) + σ (128 + 4 * j + 2) ≤ σ (128 + 4 * k + 1) ∨ σ (128 + 4 * k + 1) + σ (128 + 4 * k + 2) ≤ σ (128 + 4 * j + 1)) ∧
  (∀ w : Int, -2147483648 ≤ σ w ∧ σ w < 2147483648)
/-- a Globe holds the state -/
def hRs (G : zG) (σ : Int → Int) (k : Int) : Prop := (∃ l, hWd l ∧ gN G (7 + k.toNat) = hL (p8 l) ∧ σ (38 + 9 * k + 0) = p5 l / 1048576 ∧ σ (38 + 9 * k + 1) = p5 l % 1048576) ∧ gB G (7 + k.toNat) = decide (σ (38 + 9 * k + 2) = 1) ∧ gF G (7 + k.toNat) 2 = hI (σ (38 + 9 * k + 3)) ∧ gF G (7 + k.toNat) 3 = hI (σ (38 + 9 * k + 4)) ∧ gF G (7 + k.toNat) 4 = hI (σ (38 + 9 * k + 5)) ∧ gF G (7 + k.toNat) 5 = hI (σ (38 + 9 * k + 6)) ∧ gF G (7 + k.toNat) 6 = hI (σ (38 + 9 * k + 7)) ∧ gF G (7 + k.toNat) 7 = hI (σ (38 + 9 * k + 8))
def hRl (G : zG) (σ : Int → Int) (k : Int) : Prop := gF G (18 + k.toNat) 0 = hI (σ (128 + 4 * k + 0)) ∧ gF G (18 + k.toNat) 1 = hI (σ (128 + 4 * k + 1)) ∧ gF G (18 + k.toNat) 2 = hI (σ (128 + 4 * k + 1) + σ (128 + 4 * k + 2) - 1) ∧ gB G (18 + k.toNat) = decide (σ (128 + 4 * k + 3) = 1)
def hRc (G : zG) (σ : Int → Int) (k : Int) : Prop := gA G 2 k.toNat = hI (σ (14 + k)) ∧ gA G 3 k.toNat = hI (bg σ k) ∧ gA G 4 k.toNat = hI (σ (26 + k))
def hR (G : zG) (σ : Int → Int) : Prop :=
  (gF G 1 0 = hI (σ 0) ∧ gF G 0 2 = hI (σ 4) ∧ gF G 0 3 = hI (σ 3) ∧ gF G 0 4 = hI (σ 1) ∧ gF G 0 6 = hI (σ 2)) ∧
  (∀ b : Int, 0 ≤ b → b < 9 → gA G 5 b.toNat = hI (σ (5 + b))) ∧
  (∀ k : Int, 0 ≤ k → k < σ 0 → hRc G σ k) ∧
  (∀ k : Int, 0 ≤ k → k < σ 1 → hRs G σ k) ∧
  (∀ k : Int, 0 ≤ k → k < σ 2 → hRl G σ k)
/-- readings of a Globe -/
theorem r_gores (h : hR G σ) : gF G 1 0 = hI (σ 0) := h.1.1
theorem r_clock (h : hR G σ) : gF G 0 2 = hI (σ 4) := h.1.2.1
theorem r_thread (h : hR G σ) : gF G 0 3 = hI (σ 3) := h.1.2.2.1
theorem r_spots (h : hR G σ) : gF G 0 4 = hI (σ 1) := h.1.2.2.2.1
theorem r_labels (h : hR G σ) : gF G 0 6 = hI (σ 2) := h.1.2.2.2.2
theorem r_hem (h : hR G σ) {b : Int} (h1 : 0 ≤ b) (h2 : b < 9) : rd 9 (gA G 5) (hI b) = some (hI (σ (5 + b))) := by
  rw [rd_hI h1 (by omega) (by omega), h.2.1 b h1 h2]
theorem r_width (h : hR G σ) (h1 : 0 ≤ k) (h2 : k < σ 0) (h3 : k < 12) : rd 12 (gA G 2) (hI k) = some (hI (σ (14 + k))) := by
  rw [rd_hI h1 (by omega) (by omega), (h.2.2.1 k h1 h2).1]
theorem r_begin (h : hR G σ) (h1 : 0 ≤ k) (h2 : k < σ 0) (h3 : k < 12) : rd 12 (gA G 3) (hI k) = some (hI (bg σ k)) := by
  rw [rd_hI h1 (by omega) (by omega), (h.2.2.1 k h1 h2).2.1]
theorem r_stitch (h : hR G σ) (h1 : 0 ≤ k) (h2 : k < σ 0) (h3 : k < 12) : rd 12 (gA G 4) (hI k) = some (hI (σ (26 + k))) := by
  rw [rd_hI h1 (by omega) (by omega), (h.2.2.1 k h1 h2).2.2]
theorem r_trav (h : hR G σ) (h1 : 0 ≤ k) (h2 : k < σ 1) : gB G (7 + k.toNat) = decide (σ (38 + 9 * k + 2) = 1) := (h.2.2.2.1 k h1 h2).2.1
theorem r_s2 (h : hR G σ) (h1 : 0 ≤ k) (h2 : k < σ 1) : gF G (7 + k.toNat) 2 = hI (σ (38 + 9 * k + 3)) := (h.2.2.2.1 k h1 h2).2.2.1
theorem r_s3 (h : hR G σ) (h1 : 0 ≤ k) (h2 : k < σ 1) : gF G (7 + k.toNat) 3 = hI (σ (38 + 9 * k + 4)) := (h.2.2.2.1 k h1 h2).2.2.2.1
theorem r_s4 (h : hR G σ) (h1 : 0 ≤ k) (h2 : k < σ 1) : gF G (7 + k.toNat) 4 = hI (σ (38 + 9 * k + 5)) := (h.2.2.2.1 k h1 h2).2.2.2.2.1
theorem r_s5 (h : hR G σ) (h1 : 0 ≤ k) (h2 : k < σ 1) : gF G (7 + k.toNat) 5 = hI (σ (38 + 9 * k + 6)) := (h.2.2.2.1 k h1 h2).2.2.2.2.2.1
theorem r_s6 (h : hR G σ) (h1 : 0 ≤ k) (h2 : k < σ 1) : gF G (7 + k.toNat) 6 = hI (σ (38 + 9 * k + 7)) := (h.2.2.2.1 k h1 h2).2.2.2.2.2.2.1
theorem r_s7 (h : hR G σ) (h1 : 0 ≤ k) (h2 : k < σ 1) : gF G (7 + k.toNat) 7 = hI (σ (38 + 9 * k + 8)) := (h.2.2.2.1 k h1 h2).2.2.2.2.2.2.2
theorem r_l0 (h : hR G σ) (h1 : 0 ≤ k) (h2 : k < σ 2) : gF G (18 + k.toNat) 0 = hI (σ (128 + 4 * k + 0)) := (h.2.2.2.2 k h1 h2).1
theorem r_l1 (h : hR G σ) (h1 : 0 ≤ k) (h2 : k < σ 2) : gF G (18 + k.toNat) 1 = hI (σ (128 + 4 * k + 1)) := (h.2.2.2.2 k h1 h2).2.1
theorem r_l2 (h : hR G σ) (h1 : 0 ≤ k) (h2 : k < σ 2) : gF G (18 + k.toNat) 2 = hI (σ (128 + 4 * k + 1) + σ (128 + 4 * k + 2) - 1) := (h.2.2.2.2 k h1 h2).2.2.1
theorem r_lt (h : hR G σ) (h1 : 0 ≤ k) (h2 : k < σ 2) : gB G (18 + k.toNat) = decide (σ (128 + 4 * k + 3) = 1) := (h.2.2.2.2 k h1 h2).2.2.2
/-- a place that nothing is asked of -/
def hFree (z : Int) : Prop := z = 3 ∨ ∃ k : Int, 0 ≤ k ∧ k < 10 ∧ (z = 38 + 9 * k + 5 ∨ z = 38 + 9 * k + 8)
theorem hV_free (hz : hFree z) (h : hV B σ) : hV B (hu σ z v) := by
  obtain ⟨⟨a0, a1, a2, a4⟩, ah, aw, as_, al, ad, ar⟩ := h
  have e : ∀ w : Int, w ≠ z → hu σ z v w = σ w := fun w hw => hu_ne hw
  have hz2 : z = 3 ∨ ∃ k : Int, 0 ≤ k ∧ k < 10 ∧ (z = 38 + 9 * k + 5 ∨ z = 38 + 9 * k + 8) := hz
  have e0 : hu σ z v 0 = σ 0 := e _ (by omega)
  have e1 : hu σ z v 1 = σ 1 := e _ (by omega)
  have e2 : hu σ z v 2 = σ 2 := e _ (by omega)
  have e4 : hu σ z v 4 = σ 4 := e _ (by omega)
  refine ⟨⟨by rw [e0]; exact a0, by rw [e1]; exact a1, by rw [e2]; exact a2, by rw [e4]; exact a4⟩, ?_, ?_, ?_, ?_, ?_, ?_⟩
  · intro b h1 h2
    rw [e (5 + b) (by omega)]
    exact ah b h1 h2
  · intro k h1 h2
    rw [e0] at h2
    rw [e (14 + k) (by omega), e (26 + k) (by omega), bg_u (by omega)]
    exact aw k h1 h2
  · intro k h1 h2
    rw [e1] at h2
    unfold hVs
    rw [e (38 + 9 * k + 2) (by omega), e (38 + 9 * k + 3) (by omega), e (38 + 9 * k + 4) (by omega), e (38 + 9 * k + 6) (by omega), e (38 + 9 * k + 7) (by omega)]
    exact as_ k h1 h2
  · intro k h1 h2
    rw [e2] at h2
    unfold hVl
    rw [e (128 + 4 * k + 0) (by omega), e (128 + 4 * k + 1) (by omega), e (128 + 4 * k + 2) (by omega), e (128 + 4 * k + 3) (by omega)]
    exact al k h1 h2
  · intro j k h1 h2 h3
    rw [e2] at h3
    rw [e (128 + 4 * k + 0) (by omega), e (128 + 4 * k + 1) (by omega), e (128 + 4 * k + 2) (by omega), e (128 + 4 * k + 3) (by omega), e (128 + 4 * j + 0) (by omega), e (128 + 4 * j + 1) (by omega), e (128 + 4 * j + 2) (by omega), e (128 + 4 * j + 3) (by omega)]
    exact ad j k h1 h2 h3
  · intro w
    unfold hu
    split
    · exact hw_r
    · exact ar w
end HHB

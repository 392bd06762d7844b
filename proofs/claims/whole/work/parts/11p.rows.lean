/-! THE REFERENCE'S ROWS COPIED; WHAT IS KEPT TO UNDO -/
section HHP
variable {σ τ : Int → Int} {M M1 M2 : zM} {G Go G1 : zG} {z v w k B b m d f : Int} {l : List Int} {I : zI} {Y : Nat → Int32} {Γ : Nat → zG}
theorem mA_same {a : Nat} {g : Nat → Int32} : mA (wmA M a g) a = g := z1_same
theorem mA_ne {a a' : Nat} {g : Nat → Int32} (h : a' ≠ a) : mA (wmA M a g) a' = mA M a' := z1_ne h
theorem mF_wA {a : Nat} {g : Nat → Int32} {k : Nat} : mF (wmA M a g) k = mF M k := rfl
theorem mF_same {k : Nat} {x : Int32} : mF (wmF M k x) k = x := z1_same
theorem mF_ne {k k' : Nat} {x : Int32} (h : k' ≠ k) : mF (wmF M k x) k' = mF M k' := z1_ne h
theorem mA_wF {k : Nat} {x : Int32} : mA (wmF M k x) = mA M := rfl
theorem z1_self {α : Type} {g : Nat → α} {a : Nat} : z1 g a (g a) = g := by
  funext j
  unfold z1
  by_cases e : j = a
  · rw [if_pos e, e]
  · rw [if_neg e]
theorem z1_z1 {α : Type} {g : Nat → α} {a : Nat} {x y : α} : z1 (z1 g a x) a y = z1 g a y := by
  funext j
  unfold z1
  by_cases e : j = a
  · rw [if_pos e, if_pos e]
  · rw [if_neg e, if_neg e, if_neg e]
theorem wmA_self {a : Nat} : wmA M a (mA M a) = M := by
  unfold wmA mA
  rw [z1_self]
theorem wmA_wmA {a : Nat} {g h : Nat → Int32} : wmA (wmA M a g) a h = wmA M a h := by
  unfold wmA
  dsimp only
  rw [z1_z1]
theorem m_copy {a c : Nat} {p q : Int} (hac : a ≠ c) (p1 : 0 ≤ p) (p2 : p + 160 ≤ (mlen a : Int)) (q1 : 0 ≤ q) (q2 : q + 160 ≤ (mlen c : Int)) (pq : p < 100000 ∧ q < 100000) :
    ∃ g, fM_copiesRow M a (hI p) c (hI q) = some (wmA M c g) ∧ hrw g q = hrw (mA M a) p ∧ ∀ w : Int, 0 ≤ w → (w < q ∨ q + 160 ≤ w) → g w.toNat = mA M c w.toNat := by
  have key : ∃ r, iter (fun s => fM_copiesRow_b3 a (hI p) c (hI q) s.1 s.2) fu (M, hI 0) = some r ∧ ∃ g, r = wmA M c g ∧ (∀ w : Int, 0 ≤ w → w < 160 → g (q + w).toNat = mA M a (p + w).toNat) ∧ ∀ w : Int, 0 ≤ w → (w < q ∨ q + 160 ≤ w) → g w.toNat = mA M c w.toNat := by
    refine it_one 160 (fun i s => ∃ g, s = (wmA M c g, hI i) ∧ (∀ w : Int, 0 ≤ w → w < i → g (q + w).toNat = mA M a (p + w).toNat) ∧ ∀ w : Int, 0 ≤ w → (w < q ∨ q + 160 ≤ w) → g w.toNat = mA M c w.toNat) _ (by omega) ⟨mA M c, by rw [wmA_self]; rfl, fun w w1 w2 => by omega, fun _ _ _ => rfl⟩ ?_
    rintro i s hi ⟨g, rfl, h1, h2⟩
    unfold fM_copiesRow_b3
    dsimp only
    rw [show (160 : Int32) = hI 160 from rfl, show (1 : Int32) = hI 1 from rfl, ilt (by omega) (by omega) (by omega) (by omega)]
    by_cases cc : (i : Int) < 160
    · rw [if_pos cc, hI_add, hI_add, hI_add, mA_ne hac, rd_hI (by omega) (by omega) (by omega), bnd_s, mA_same, wr_hI (by omega) (by omega) (by omega), bnd_s, bnd_s, wmA_wmA]
      refine Or.inl ⟨by omega, _, rfl, _, rfl, fun w w1 w2 => ?_, fun w w1 w2 => ?_⟩
      · rw [upd_w]
        by_cases e : w = i
        · subst e; rw [if_pos rfl]
        · rw [if_neg (by omega)]; exact h1 w w1 (by omega)
      · rw [upd_w, if_neg (by omega)]; exact h2 w w1 w2
    · rw [if_neg cc]
      exact Or.inr ⟨_, rfl, g, rfl, fun w w1 w2 => h1 w w1 (by omega), h2⟩
  obtain ⟨r, e, g, rfl, h1, h2⟩ := key
  refine ⟨g, e, ?_, h2⟩
  funext w
  unfold hrw
  by_cases c : 0 ≤ w ∧ w < 160
  · rw [if_pos c, if_pos c, h1 w c.1 c.2]
  · rw [if_neg c, if_neg c]
theorem hrw_c {g h : Nat → Int32} {p : Int} (e : ∀ w : Int, 0 ≤ w → w < 160 → g (p + w).toNat = h (p + w).toNat) : hrw g p = hrw h p := by
  funext w
  unfold hrw
  by_cases c : 0 ≤ w ∧ w < 160
  · rw [if_pos c, if_pos c, e w c.1 c.2]
  · rw [if_neg c, if_neg c]
/-- a whole state, in the class and in a row -/
def hG (B : Int) (G : zG) (σ : Int → Int) : Prop := hR G σ ∧ hV B σ ∧ 2 ≤ σ 0
theorem hG_le {B1 : Int} (hb : B ≤ B1) (h : hG B G σ) : hG B1 G σ := ⟨h.1, hV_le hb h.2.1, h.2.2⟩
def hrow (M : zM) (i : Int) : Int → Int := hrw (mA M 253) (160 * i)
def hH (B : Int) (Y : Nat → Int32) (Γ : Nat → zG) (M : zM) : Prop := ∃ u t : Int, 0 ≤ u ∧ u ≤ 6 ∧ 0 ≤ t ∧ t < 6 ∧ Y 0 = hI u ∧ Y 1 = hI t ∧ mF M 18 = hI u ∧ ∀ i : Int, 0 ≤ i → i < u → hG B (Γ (90 + 26 * ((t + 6 - i) % 6).toNat)) (hrow M (u - 1 - i))
/-- what 'keeps' does -/
theorem m_keeps {u : Int} (u1 : 0 ≤ u) (u2 : u ≤ 6) (eu : mF M 18 = hI u) : ∃ M1, fM_keeps M = some M1 ∧ mF M1 18 = hI (if u = 6 then 6 else u + 1) ∧ hrow M1 ((if u = 6 then 6 else u + 1) - 1) = hrw (mA M 251) 0 ∧ (∀ i, 0 ≤ i → i < (if u = 6 then 6 else u + 1) - 1 → hrow M1 i = hrow M (if u = 6 then i + 1 else i)) ∧ (∀ k, k ≠ 18 → mF M1 k = mF M k) ∧ mN M1 = mN M ∧ mB M1 = mB M ∧ ∀ a, a ≠ 253 → mA M1 a = mA M a := by
  have j55 : ∀ (M2 : zM) (y : Int), 0 ≤ y → y ≤ 5 → mF M2 18 = hI y → ∃ M1, fM_keeps_j55 M2 = some M1 ∧ mF M1 18 = hI (y + 1) ∧ hrow M1 y = hrw (mA M2 251) 0 ∧ (∀ i, 0 ≤ i → i < y → hrow M1 i = hrow M2 i) ∧ (∀ k, k ≠ 18 → mF M1 k = mF M2 k) ∧ mN M1 = mN M2 ∧ mB M1 = mB M2 ∧ ∀ a, a ≠ 253 → mA M1 a = mA M2 a := by
    intro M2 y y1 y2 ey
    unfold fM_keeps_j55
    obtain ⟨g, e1, e2, e3⟩ := m_copy (M := M2) (a := 251) (c := 253) (p := 0) (q := 160 * y) (by decide) (by omega) (by decide) (by omega) (by show 160 * y + 160 ≤ 960; omega) (by omega)
    rw [ey, show (160 : Int32) = hI 160 from rfl, hI_mul, show (0 : Int32) = hI 0 from rfl, e1, bnd_s, mF_wA, ey, show (1 : Int32) = hI 1 from rfl, hI_add, bnd_s]
    refine ⟨_, rfl, mF_same, ?_, fun i i1 i2 => ?_, fun k hk => mF_ne hk, rfl, rfl, fun a ha => mA_ne ha⟩
    · unfold hrow
      rw [mA_wF, mA_same]; exact e2
    · unfold hrow
      rw [mA_wF, mA_same]
      exact hrw_c (fun w w1 w2 => e3 _ (by omega) (Or.inl (by omega)))
  unfold fM_keeps
  rw [eu, show (6 : Int32) = hI 6 from rfl, ieq (by omega) (by omega) (by omega) (by omega)]
  by_cases c : u = 6
  · subst c
    rw [if_pos rfl, if_pos rfl, bnd_s, show (1 : Int32) = hI 1 from rfl, hI_sub]
    have key : ∃ r, iter (fun s => fM_keeps_b21 s.1 s.2) fu (wmF M 18 (hI (6 - 1)), hI 0) = some r ∧ mF r 18 = hI 6 ∧ hrow r 5 = hrw (mA M 251) 0 ∧ (∀ i, 0 ≤ i → i < 5 → hrow r i = hrow M (i + 1)) ∧ (∀ k, k ≠ 18 → mF r k = mF M k) ∧ mN r = mN M ∧ mB r = mB M ∧ ∀ a, a ≠ 253 → mA r a = mA M a := by
      refine it_one 800 (fun i s => ∃ g, s = (wmA (wmF M 18 (hI 5)) 253 g, hI i) ∧ (∀ w : Int, 0 ≤ w → w < i → g w.toNat = mA M 253 (w + 160).toNat) ∧ ∀ w : Int, i ≤ w → g w.toNat = mA M 253 w.toNat) _ (by omega) ⟨mA M 253, ?_, fun w w1 w2 => by omega, fun _ _ => rfl⟩ ?_
      · show (wmF M 18 (hI 5), hI 0) = (wmA (wmF M 18 (hI 5)) 253 (mA (wmF M 18 (hI 5)) 253), hI 0)
        rw [wmA_self]
      rintro i s hi ⟨g, rfl, h1, h2⟩
      unfold fM_keeps_b21
      dsimp only
      rw [mF_wA, mF_same, show (160 : Int32) = hI 160 from rfl, hI_mul, ilt (by omega) (by omega) (by omega) (by omega)]
      by_cases cc : (i : Int) < 160 * 5
      · rw [if_pos cc, mA_same, hI_add, rd_hI (by omega) (by omega) (by omega), bnd_s, wr_hI (by omega) (by omega) (by omega), bnd_s, bnd_s, wmA_wmA, show (1 : Int32) = hI 1 from rfl, hI_add]
        refine Or.inl ⟨by omega, _, rfl, _, rfl, fun w w1 w2 => ?_, fun w w1 => ?_⟩
        · rw [upd_w]
          by_cases e : w = i
          · subst e; rw [if_pos rfl]; exact h2 _ (by omega)
          · rw [if_neg (by omega)]; exact h1 w w1 (by omega)
        · rw [upd_w, if_neg (by omega)]; exact h2 w (by omega)
      · obtain ⟨M1, e1, e2, e3, e4, e5, e6, e7, e8⟩ := j55 (wmA (wmF M 18 (hI 5)) 253 g) 5 (by omega) (by omega) (by rw [mF_wA, mF_same])
        rw [if_neg cc, e1, Option.map_some]
        refine Or.inr ⟨_, rfl, e2, ?_, fun i i1 i2 => ?_, fun k hk => ?_, e6, e7, fun a ha => ?_⟩
        · rw [e3, mA_ne (by decide)]; rfl
        · rw [e4 i i1 i2]
          unfold hrow
          rw [mA_same]
          funext w
          unfold hrw
          by_cases c : 0 ≤ w ∧ w < 160
          · rw [if_pos c, if_pos c, h1 (160 * i + w) (by omega) (by omega), show 160 * i + w + 160 = 160 * (i + 1) + w by omega]
          · rw [if_neg c, if_neg c]
        · rw [e5 k hk, mF_wA, mF_ne hk]
        · rw [e8 a ha, mA_ne ha]; rfl
    obtain ⟨r, q1, q2, q3, q4, q5⟩ := key
    exact ⟨r, q1, q2, q3, q4, q5⟩
  · rw [if_neg c, if_neg c]
    obtain ⟨M1, e1, e2, e3, e4, e5⟩ := j55 M u u1 (by omega) eu
    refine ⟨M1, e1, e2, ?_, fun i i1 i2 => ?_, e5⟩
    · rw [show u + 1 - 1 = u by omega]; exact e3
    · rw [if_neg c]; exact e4 i i1 (by omega)
/-- a row laid aside -/
theorem m_aside : ∃ g, fM_laysAside M = some (wmA M 251 g) ∧ hrw g 0 = hm M := by
  obtain ⟨g, e1, e2, e3⟩ := m_copy (M := M) (a := 249) (c := 251) (p := 0) (q := 0) (by decide) (by omega) (by decide) (by omega) (by decide) (by omega)
  refine ⟨g, ?_, e2⟩
  unfold fM_laysAside
  rw [show (0 : Int32) = hI 0 from rfl, e1, bnd_s]
/-- a call that can be undone: remembered ahead of it in the class, behind it in the reference -/
theorem t_undoable (hh : hH B Y Γ M) (hg : hG B (Γ 10) (hm M)) : ∃ Y1 Γ1 M4, fY_remember Y Γ 10 = some (Y1, Γ1) ∧ fM_laysAside M = some M4 ∧ (∀ g, g < 88 → Γ1 g = Γ g) ∧ hm M4 = hm M ∧ (∀ k, mF M4 k = mF M k) ∧ mN M4 = mN M ∧ mB M4 = mB M ∧ (∀ a, a ≠ 251 → mA M4 a = mA M a) ∧
    ∀ M6 : zM, mF M6 18 = mF M4 18 → mA M6 251 = mA M4 251 → mA M6 253 = mA M4 253 → ∃ M9, fM_keeps M6 = some M9 ∧ (∀ G', hH B Y1 (gup Γ1 10 G') M9) ∧ (∀ k, k ≠ 18 → mF M9 k = mF M6 k) ∧ mN M9 = mN M6 ∧ mB M9 = mB M6 ∧ ∀ a, a ≠ 253 → mA M9 a = mA M6 a := by
  obtain ⟨u, t, u1, u2, t1, t2, y0, y1, y18, rows⟩ := hh
  obtain ⟨g, e1, e2⟩ := m_aside (M := M)
  obtain ⟨G6, c1, c2⟩ := t_copy (G := Γ (90 + 26 * ((t + 1) % 6).toNat)) hg.1 hg.2.1.1.1.2 hg.2.1.1.2.1 hg.2.1.1.2.2.1
  refine ⟨z1 (z1 Y 1 (hI ((t + 1) % 6))) 0 (hI (if u = 6 then 6 else u + 1)), gup Γ (90 + 26 * ((t + 1) % 6).toNat) G6, _, ?_, e1, fun g hg => gup_ne (by omega), ?_, fun k => rfl, rfl, rfl, fun a ha => mA_ne ha, ?_⟩
  · unfold fY_remember
    have eY : (Y 1 + 1 - (Y 1 + 1) / 6 * 6) = hI ((t + 1) % 6) := by
      rw [y1, show (1 : Int32) = hI 1 from rfl, show (6 : Int32) = hI 6 from rfl, hI_add, hI_div (by omega) (by omega) (by omega) (by omega), hI_mul, hI_sub]
      exact congrArg hI (by omega)
    have eY2 : fJ_min_7cf53 (hI u + hI 1) (hI 6) = hI (if u = 6 then 6 else u + 1) := by
      unfold fJ_min_7cf53
      rw [hI_add, ilt (by omega) (by omega) (by omega) (by omega)]
      by_cases c : u = 6
      · rw [if_pos c, if_pos (by omega)]
      · rw [if_neg c, if_neg (by omega)]
    rw [eY, bnd_s, z1_same, rix_hI (by omega) (by omega) (by omega), bnd_s, c1, bnd_s, z1_ne (by decide), y0, show (1 : Int32) = hI 1 from rfl, show (6 : Int32) = hI 6 from rfl, eY2, bnd_s]
  · unfold hm
    rw [mA_ne (by decide)]
  · intro M6 f18 f251 f253
    obtain ⟨M9, k1, k2, k3, k4, k5, k6, k7, k8⟩ := m_keeps (M := M6) u1 u2 (by rw [f18, mF_wA]; exact y18)
    refine ⟨M9, k1, fun G' => ?_, k5, k6, k7, k8⟩
    have ea : hrw (mA M6 251) 0 = hm M := by rw [f251, mA_same]; exact e2
    have ep : ∀ i, hrow M6 i = hrow M i := fun i => by unfold hrow; rw [f253, mA_ne (by decide)]
    refine ⟨if u = 6 then 6 else u + 1, (t + 1) % 6, by split <;> omega, by split <;> omega, by omega, by omega, z1_same, by rw [z1_ne (by decide), z1_same], k2, fun i i1 i2 => ?_⟩
    rw [gup_ne (by omega)]
    by_cases c : i = 0
    · subst c
      have e6 : ((t + 1) % 6 + 6 - 0) % 6 = (t + 1) % 6 := by omega
      rw [e6, gup_same, Int.sub_zero, k3, ea]
      exact ⟨c2, hg.2⟩
    · have i2' : i < (if u = 6 then 6 else u + 1) := i2
      have i3 : i - 1 < u := by
        by_cases c6 : u = 6
        · rw [if_pos c6] at i2'; omega
        · rw [if_neg c6] at i2'; omega
      have i6 : i < 6 := by
        by_cases c6 : u = 6
        · rw [if_pos c6] at i2'; omega
        · rw [if_neg c6] at i2'; omega
      have hne : ((t + 1) % 6 + 6 - i) % 6 ≠ (t + 1) % 6 := by omega
      rw [gup_ne (by omega), k4 _ (by omega) (by omega), ep]
      have r := rows (i - 1) (by omega) i3
      have e7 : ((t + 1) % 6 + 6 - i) % 6 = (t + 6 - (i - 1)) % 6 := by omega
      rw [e7]
      have e8 : (if u = 6 then (if u = 6 then 6 else u + 1) - 1 - i + 1 else (if u = 6 then 6 else u + 1) - 1 - i) = u - 1 - (i - 1) := by
        by_cases c6 : u = 6
        · rw [if_pos c6, if_pos c6]; omega
        · rw [if_neg c6, if_neg c6]; omega
      rw [e8]
      exact r
end HHP

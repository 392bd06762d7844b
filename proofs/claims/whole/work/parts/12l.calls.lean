/-! readText -/
section HIL
variable {σ τ : Int → Int} {M M0 M1 M2 : zM} {I I1 I2 : zI} {G G1 : zG} {B n p p0 q k v x c g lo hi s : Int} {l : List Int} {Y : Nat → Int32} {Γ : Nat → zG} {D : zD} {O : Nat → Int32}
theorem ends_t (h : mF M 8 = hI 0) : fM_endsText M = some (true, wmF (wmF (wmF M 10 (hI 0)) 11 (mF M 9)) 0 0) := by
  unfold fM_endsText fM_endsText_j29
  rw [h, bnd_s, bnd_s, mF_ne (by decide), mF_ne (by decide), h, show (0 : Int32) = hI 0 from rfl, if_pos rfl, goes_t, bnd2_s, mF_ne (by decide)]; rfl
theorem ends_f (h : hEr I M) : fM_endsText M = some (false, wmF (wmF (wmF M 10 (mF M 8)) 11 (mF M 9)) 0 1) := by
  obtain ⟨c, c1, c2, c3, -⟩ := h
  unfold fM_endsText fM_endsText_j29
  rw [c3, bnd_s, bnd_s, mF_ne (by decide), mF_ne (by decide), c3, show (0 : Int32) = hI 0 from rfl, ieq (by omega) (by omega) (by omega) (by omega), if_neg (by omega), goes_f, bnd2_s, mF_ne (by decide)]
theorem o_readText (hs : hS B I Y Γ D O M) : ∃ I1 Γ1 M1,
    (∃ p Y1, fX_readText I Y Γ = some (.inl p, I1, Y1, Γ1) ∧ fM_readText M = some (p, M1) ∧ mF M1 0 = 0 ∧ hS (B + 50000) I1 Y1 Γ1 D O M1) ∨
    (fX_readText I Y Γ = some (.inr eA, I1, Y, Γ1) ∧ fM_readText M = some (0, M1) ∧ mF M1 0 = 1 ∧ hS (B + 50000) I1 Y Γ1 D O M1) := by
  obtain ⟨⟨hr, hv, hgo⟩, hh, h3, ⟨⟨n, n1, n2, ni, nm, hb⟩, -, -⟩, hou⟩ := id hs
  have hB0 : 0 ≤ B := by have := hv.1.2.2.2; omega
  obtain ⟨g, eg1, eg2⟩ := m_aside (M := M)
  have hb1 : hBy I (wmA M 251 g) n := fun k k1 k2 => by rw [mA_ne (by decide)]; exact hb k k1 k2
  obtain ⟨J, M2, s1, s2, s3, s4, s5, s6, s7⟩ := t_begin (M := wmA M 251 g) hb1 ni nm n1 n2
  obtain ⟨f, f1, f2⟩ := m_begins (M := M2)
  have f3 : hfr M2 (wmA M2 249 f) := ⟨fun _ _ => rfl, rfl, rfl, fun a ha => mA_ne ha⟩
  obtain ⟨G1, c1, c2⟩ := g_clear (G := Γ 36)
  obtain ⟨t, I2, G2, M3, r1, r2, r3, r4⟩ := t_read (G := Γ 36) (ah_fr s3 f3) c2 f2 c1 s1
  have em : fM_readText M = fM_readText_j50 M3 := by
    unfold fM_readText
    rw [eg1, bnd_s, s2, bnd_s, f1, bnd_s]
    exact r2
  have fF : ∀ k, (k = 18 ∨ k = 31) → mF M3 k = mF M k := fun k hk => by
    rw [r3.1 k (by omega) (by omega), mF_wA, s5 k (by omega), mF_wA]
  have f22 : mF M3 2 = hI 0 := by rw [r3.1 2 (by omega) (by omega), mF_wA]; exact s4
  have fB : mB M3 = mB M := by rw [r3.2.1]; exact s6
  have fA : ∀ a, a ≠ 249 → a ≠ 251 → mA M3 a = mA M a := fun a h1 h2 => by
    rw [r3.2.2 a h1, mA_ne h1, s7, mA_ne h2]
  have f251 : mA M3 251 = g := by
    rw [r3.2.2 251 (by decide), mA_ne (by decide), s7, mA_same]
  have hin : ∀ M9 : zM, mF M9 2 = hI 0 → mF M9 10 = iF I2 8 → mF M9 11 = iF I2 9 → hIn (wiF I2 1 0) M9 := by
    intro M9 h1 h2 h3
    refine ⟨⟨0, by omega, by omega, iF_same, h1, fun k k1 k2 => by omega⟩, ?_, ?_⟩
    · rw [iF_ne (by decide), h2]
    · rw [iF_ne (by decide), h3]
  rcases r4 with ⟨rfl, ⟨d1, d2, d3, d4⟩, d5, d6, d7⟩ | ⟨rfl, d1⟩
  · obtain ⟨G5, k1, k2⟩ := t_copy (G := Γ 10) d5 d6.1.1.2 d6.1.2.1 d6.1.2.2.1
    have h2 : hm (wmF (wmF (wmF (wmF M3 10 (hI 0)) 11 (mF M3 9)) 0 0) 18 0) = hm M3 := rfl
    have e1 : mA (wmF (wmF (wmF (wmF M3 10 (hI 0)) 11 (mF M3 9)) 0 0) 18 0) 249 1 = hI (hm M3 1) := m_1
    refine ⟨wiF I2 1 0, gup (gup Γ 36 G2) 10 G5, wmF (wmF (wmF (wmF M3 10 (hI 0)) 11 (mF M3 9)) 0 0) 18 0, Or.inl ⟨hI (hm M3 1), z1 Y 0 0, ?_, ?_, ?_, ?_, ?_, ?_, ?_, ?_⟩⟩
    · unfold fX_readText fY_forget
      rw [r1, bnd3_s, bnd_s, if_pos rfl, gup_same, gup_ne (by decide), k1, bnd_s, bnd_s, bnd_s, gup_same, r_spots k2]
    · rw [em]
      unfold fM_readText_j50
      rw [ends_t d1, bnd2_s, if_pos rfl, bnd_s, e1]
    · rw [mF_ne (by decide), mF_same]
    · rw [gup_same, h2]
      exact ⟨k2, hV_le (by omega) d6, d7⟩
    · obtain ⟨u, t, u1, u2, t1, t2, y0, y1, y18, rows⟩ := hh
      exact ⟨0, t, by omega, by omega, t1, t2, z1_same, by rw [z1_ne (by decide)]; exact y1, mF_same, fun i i1 i2 => by omega⟩
    · refine ⟨?_, fun z => ?_⟩
      · show D.1 = mB M3
        rw [fB]; exact h3.1
      · have z' : mB M = true := by rw [← fB]; exact z
        rw [gup_ne (by decide), gup_ne (by decide), mA_wF, mA_wF, mA_wF, mA_wF, fA 250 (by decide) (by decide)]
        exact hG_le (by omega) (h3.2 z')
    · refine hin _ ?_ ?_ ?_
      · rw [mF_ne (by decide), mF_ne (by decide), mF_ne (by decide), mF_ne (by decide)]; exact f22
      · rw [mF_ne (by decide), mF_ne (by decide), mF_ne (by decide), mF_same, d3]
      · rw [mF_ne (by decide), mF_ne (by decide), mF_same, d4, d2]
    · exact hOu_c (M := M) (by rw [mF_ne (by decide), mF_ne (by decide), mF_ne (by decide), mF_ne (by decide)]; exact fF 31 (by omega)) (by rw [mA_wF, mA_wF, mA_wF, mA_wF]; exact fA 260 (by decide) (by decide)) hou
  · obtain ⟨c, cc1, cc2, cc3, cc4, cc5⟩ := id d1
    obtain ⟨g2, x1, x2, x3⟩ := m_copy (M := wmF (wmF (wmF M3 10 (mF M3 8)) 11 (mF M3 9)) 0 1) (a := 251) (c := 249) (p := 0) (q := 0) (by decide) (by omega) (by decide) (by omega) (by decide) (by omega)
    have ehm : hm (wmA (wmF (wmF (wmF M3 10 (mF M3 8)) 11 (mF M3 9)) 0 1) 249 g2) = hm M := by
      unfold hm
      rw [mA_same, x2, mA_wF, mA_wF, mA_wF, f251, eg2]
      rfl
    refine ⟨wiF I2 1 0, gup Γ 36 G2, wmA (wmF (wmF (wmF M3 10 (mF M3 8)) 11 (mF M3 9)) 0 1) 249 g2, Or.inr ⟨?_, ?_, ?_, ?_, ?_, ?_, ?_, ?_⟩⟩
    · unfold fX_readText
      rw [r1, bnd3_s, bnd_s, if_neg Bool.false_ne_true]
      rfl
    · rw [em]
      unfold fM_readText_j50 fM_goesBack
      rw [ends_f d1, bnd2_s, if_neg Bool.false_ne_true, show (0 : Int32) = hI 0 from rfl]
      rw [x1, bnd_s, bnd_s]
    · rw [mF_wA, mF_same]
    · rw [gup_ne (by decide), ehm]
      exact ⟨hr, hV_le (by omega) hv, hgo⟩
    · obtain ⟨u, t, u1, u2, t1, t2, y0, y1, y18, rows⟩ := hh
      refine ⟨u, t, u1, u2, t1, t2, y0, y1, ?_, fun i i1 i2 => ?_⟩
      · rw [mF_wA, mF_ne (by decide), mF_ne (by decide), mF_ne (by decide), fF 18 (by omega)]; exact y18
      · have := rows i i1 i2
        rw [gup_ne (by omega)]
        unfold hrow at this ⊢
        rw [mA_ne (by decide), mA_wF, mA_wF, mA_wF, fA 253 (by decide) (by decide)]
        exact hG_le (by omega) this
    · refine ⟨?_, fun z => ?_⟩
      · show D.1 = mB M3
        rw [fB]; exact h3.1
      · have z' : mB M = true := by rw [← fB]; exact z
        rw [gup_ne (by decide), mA_ne (by decide), mA_wF, mA_wF, mA_wF, fA 250 (by decide) (by decide)]
        exact hG_le (by omega) (h3.2 z')
    · refine hin _ ?_ ?_ ?_
      · rw [mF_wA, mF_ne (by decide), mF_ne (by decide), mF_ne (by decide)]; exact f22
      · rw [mF_wA, mF_ne (by decide), mF_ne (by decide), mF_same, cc4]
      · rw [mF_wA, mF_ne (by decide), mF_same, cc5]
    · exact hOu_c (M := M) (by rw [mF_wA, mF_ne (by decide), mF_ne (by decide), mF_ne (by decide)]; exact fF 31 (by omega)) (by rw [mA_ne (by decide), mA_wF, mA_wF, mA_wF]; exact fA 260 (by decide) (by decide)) hou
end HIL

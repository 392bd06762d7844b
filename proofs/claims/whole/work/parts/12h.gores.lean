/-! THE FIRST LINE OF A DESCRIPTION -/
section HIH
variable {σ τ : Int → Int} {M M0 M1 M2 : zM} {I I1 I2 : zI} {G G1 : zG} {B n p p0 q k v x c g lo hi : Int} {l : List Int}
theorem t_begin (hb : hBy I M n) (e1 : iF I 1 = hI n) (e2 : mF M 2 = hI n) (n1 : 0 ≤ n) (n2 : n ≤ 600) : ∃ I1 M1, fI_start I = some I1 ∧ fM_beginsText M = some M1 ∧ hAh n 0 I1 M1 ∧ mF M1 2 = hI 0 ∧ (∀ k, k < 2 ∨ 9 < k → mF M1 k = mF M k) ∧ mB M1 = mB M ∧ mA M1 = mA M := by
  unfold fI_start fM_beginsText
  rw [e2, show (0 : Int32) = hI 0 from rfl, show (1 : Int32) = hI 1 from rfl, hI_neg]
  simp only [bnd_s]
  have hb2 : hBy (wiF (wiF (wiF I 2 (hI 0)) 8 (hI 0)) 9 (hI (-1))) (wmF (wmF (wmF (wmF (wmF M 3 (hI n)) 2 (hI 0)) 4 (hI 0)) 8 (hI 0)) 9 (hI (-1))) n := hb
  have i1 : iF (wiF (wiF (wiF I 2 (hI 0)) 8 (hI 0)) 9 (hI (-1))) 1 = hI n := by rw [iF_ne (by decide), iF_ne (by decide), iF_ne (by decide)]; exact e1
  have i2 : iF (wiF (wiF (wiF I 2 (hI 0)) 8 (hI 0)) 9 (hI (-1))) 2 = hI 0 := by rw [iF_ne (by decide), iF_ne (by decide), iF_same]
  have i8 : iF (wiF (wiF (wiF I 2 (hI 0)) 8 (hI 0)) 9 (hI (-1))) 8 = hI 0 := by rw [iF_ne (by decide), iF_same]
  have i9 : iF (wiF (wiF (wiF I 2 (hI 0)) 8 (hI 0)) 9 (hI (-1))) 9 = hI (-1) := iF_same
  have m3 : mF (wmF (wmF (wmF (wmF (wmF M 3 (hI n)) 2 (hI 0)) 4 (hI 0)) 8 (hI 0)) 9 (hI (-1))) 3 = hI n := by rw [mF_ne (by decide), mF_ne (by decide), mF_ne (by decide), mF_ne (by decide), mF_same]
  have m2 : mF (wmF (wmF (wmF (wmF (wmF M 3 (hI n)) 2 (hI 0)) 4 (hI 0)) 8 (hI 0)) 9 (hI (-1))) 2 = hI 0 := by rw [mF_ne (by decide), mF_ne (by decide), mF_ne (by decide), mF_same]
  have m4 : mF (wmF (wmF (wmF (wmF (wmF M 3 (hI n)) 2 (hI 0)) 4 (hI 0)) 8 (hI 0)) 9 (hI (-1))) 4 = hI 0 := by rw [mF_ne (by decide), mF_ne (by decide), mF_same]
  have m8 : mF (wmF (wmF (wmF (wmF (wmF M 3 (hI n)) 2 (hI 0)) 4 (hI 0)) 8 (hI 0)) 9 (hI (-1))) 8 = hI 0 := by rw [mF_ne (by decide), mF_same]
  have m9 : mF (wmF (wmF (wmF (wmF (wmF M 3 (hI n)) 2 (hI 0)) 4 (hI 0)) 8 (hI 0)) 9 (hI (-1))) 9 = hI (-1) := mF_same
  have fr : ∀ k, k < 2 ∨ 9 < k → mF (wmF (wmF (wmF (wmF (wmF M 3 (hI n)) 2 (hI 0)) 4 (hI 0)) 8 (hI 0)) 9 (hI (-1))) k = mF M k := by
    intro k hk
    rw [mF_ne (by omega), mF_ne (by omega), mF_ne (by omega), mF_ne (by omega), mF_ne (by omega)]
  have hA : mA (wmF (wmF (wmF (wmF (wmF M 3 (hI n)) 2 (hI 0)) 4 (hI 0)) 8 (hI 0)) 9 (hI (-1))) = mA M := rfl
  have hBB : mB (wmF (wmF (wmF (wmF (wmF M 3 (hI n)) 2 (hI 0)) 4 (hI 0)) 8 (hI 0)) 9 (hI (-1))) = mB M := rfl
  have hiA : iA (wiF (wiF (wiF I 2 (hI 0)) 8 (hI 0)) 9 (hI (-1))) = iA I := rfl
  generalize wiF (wiF (wiF I 2 (hI 0)) 8 (hI 0)) 9 (hI (-1)) = J at *
  generalize wmF (wmF (wmF (wmF (wmF M 3 (hI n)) 2 (hI 0)) 4 (hI 0)) 8 (hI 0)) 9 (hI (-1)) = N at *
  obtain ⟨p', I1, M1, a1, a2, a3, a4, a5, a6⟩ := t_next hb2 i1 i2 m3 m4 (by omega) n1 n2
  rw [a2, bnd_s]
  refine ⟨J, M1, rfl, rfl, ⟨p', I1, a1, ⟨n1, n2, fun k h1 h2 => ?_, ?_, ?_, ?_, ?_, ?_, ?_, a3⟩, a5, a6⟩, ?_, fun k hk => ?_, a4.2.2.2.1.trans hBB, a4.2.2.2.2.trans hA⟩
  · rw [a4.2.1, a4.2.2.2.2]; exact hb2 k h1 h2
  · rw [a4.1 1 (by omega)]; exact i1
  · rw [a4.2.2.1 3 (by omega)]; exact m3
  · rw [a4.2.2.1 8 (by omega)]; exact m8
  · rw [a4.1 8 (by omega)]; exact i8
  · rw [a4.1 9 (by omega)]; exact i9
  · rw [a4.2.2.1 9 (by omega)]; exact m9
  · rw [a4.2.2.1 2 (by omega)]; exact m2
  · rw [a4.2.2.1 k (by omega)]; exact fr k hk
/-- the empty state -/
def bS : Int → Int := fun w => if w = 3 then 500 else if 5 ≤ w ∧ w < 14 then 180 else 0
theorem bS_0 {w : Int} (h3 : w ≠ 3) (h : ¬ (5 ≤ w ∧ w < 14)) : bS w = 0 := by unfold bS; rw [if_neg h3, if_neg h]
theorem bS_h (h : 5 ≤ x) (h2 : x < 14) : bS x = 180 := by unfold bS; rw [if_neg (by omega), if_pos ⟨h, h2⟩]
theorem m_begins : ∃ f, fM_begins M = some (wmA M 249 f) ∧ hm (wmA M 249 f) = bS := by
  have key : ∃ r, iter (fun s => fM_begins_b2 s.1 s.2) fu (M, hI 0) = some r ∧ ∃ f, r = wmA M 249 f ∧ ∀ w : Int, 0 ≤ w → w < 160 → f w.toNat = hI (bS w) := by
    refine it_one 160 (fun i s => ∃ f, s = (wmA M 249 f, hI i) ∧ ∀ w : Int, 0 ≤ w → w < i → f w.toNat = hI 0) _ (by omega) ⟨mA M 249, by rw [wmA_self]; rfl, fun w w1 w2 => by omega⟩ ?_
    rintro i s hi ⟨f, rfl, hf⟩
    show (_ ∧ ∃ s', fM_begins_b2 _ _ = _ ∧ _) ∨ ∃ r, fM_begins_b2 _ _ = _ ∧ _
    unfold fM_begins_b2
    by_cases c : i < 160
    · left
      refine ⟨c, (wmA M 249 (upd f i (hI 0)), hI ((i + 1 : Nat) : Int)), ?_, upd f i (hI 0), rfl, fun w w1 w2 => ?_⟩
      · rw [show (160 : Int32) = hI 160 from rfl, ilt (by omega) (by omega) (by omega) (by omega), if_pos (by omega), mA_same, wr_hI (by omega) (by omega) (by omega), bnd_s, bnd_s, wmA_wmA, show (0 : Int32) = hI 0 from rfl, show (1 : Int32) = hI 1 from rfl, hI_add]
        rfl
      · rw [upd_w]
        by_cases d : w = i
        · rw [if_pos (by omega)]
        · rw [if_neg (by omega)]; exact hf w w1 (by omega)
    · right
      rw [show (160 : Int32) = hI 160 from rfl, ilt (by omega) (by omega) (by omega) (by omega), if_neg (by omega), mA_same, wmA_wmA, bnd_s]
      have k2 : ∃ r, iter (fun s => fM_begins_b33 s.1 s.2) fu (wmA M 249 (upd f 3 500), hI 0) = some r ∧ ∃ f, r = wmA M 249 f ∧ ∀ w : Int, 0 ≤ w → w < 160 → f w.toNat = hI (bS w) := by
        refine it_one 9 (fun i s => ∃ f, s = (wmA M 249 f, hI i) ∧ ∀ w : Int, 0 ≤ w → w < 160 → f w.toNat = hI (if w = 3 then 500 else if 5 ≤ w ∧ w < 5 + i then 180 else 0)) _ (by omega) ⟨upd f 3 500, rfl, fun w w1 w2 => ?_⟩ ?_
        · rw [upd_w]
          by_cases d : w = 3
          · rw [if_pos (by omega), if_pos d]; rfl
          · rw [if_neg (by omega), if_neg d, if_neg (by omega)]; exact hf w w1 (by omega)
        · rintro j s hj ⟨f2, rfl, hf2⟩
          show (_ ∧ ∃ s', fM_begins_b33 _ _ = _ ∧ _) ∨ ∃ r, fM_begins_b33 _ _ = _ ∧ _
          unfold fM_begins_b33
          by_cases c : j < 9
          · left
            refine ⟨c, (wmA M 249 (upd f2 (5 + (j : Int)).toNat (hI 180)), hI ((j + 1 : Nat) : Int)), ?_, _, rfl, fun w w1 w2 => ?_⟩
            · rw [show (9 : Int32) = hI 9 from rfl, ilt (by omega) (by omega) (by omega) (by omega), if_pos (by omega), mA_same, show (5 : Int32) = hI 5 from rfl, hI_add, wr_hI (by omega) (by omega) (by omega), bnd_s, bnd_s, wmA_wmA, show (1 : Int32) = hI 1 from rfl, show (180 : Int32) = hI 180 from rfl, hI_add]
              rfl
            · rw [upd_w]
              by_cases d : w = 5 + j
              · rw [if_pos (by omega), if_neg (by omega), if_pos (by omega)]
              · rw [if_neg (by omega), hf2 w w1 w2]
                by_cases d3 : w = 3
                · rw [if_pos d3, if_pos d3]
                · rw [if_neg d3, if_neg d3]
                  by_cases d4 : 5 ≤ w ∧ w < 5 + j
                  · rw [if_pos d4, if_pos (by omega)]
                  · rw [if_neg d4, if_neg (by omega)]
          · right
            refine ⟨wmA M 249 f2, ?_, f2, rfl, fun w w1 w2 => ?_⟩
            · rw [show (9 : Int32) = hI 9 from rfl, ilt (by omega) (by omega) (by omega) (by omega), if_neg (by omega)]
            · rw [hf2 w w1 w2]
              unfold bS
              have : j = 9 := by omega
              subst this
              rfl
      obtain ⟨r, r1, r2⟩ := k2
      refine ⟨r, ?_, r2⟩
      rw [show (0 : Int32) = hI 0 from rfl, r1]; rfl
  obtain ⟨r, r1, f, rfl, r2⟩ := key
  refine ⟨f, r1, ?_⟩
  funext w
  unfold hm hrw
  by_cases c : 0 ≤ w ∧ w < 160
  · rw [if_pos c, mA_same, Int.zero_add, r2 w c.1 c.2]
    unfold bS
    split
    · rfl
    · split <;> rfl
  · rw [if_neg c, bS_0 (by omega) (by omega)]
theorem hV_bS (hB : 0 ≤ B) : hV B bS := by
  have z : ∀ w, w < 3 ∨ w = 4 ∨ 14 ≤ w → bS w = 0 := fun w hw => bS_0 (by omega) (by omega)
  refine ⟨⟨?_, ?_, ?_, ?_⟩, fun b b1 b2 => ?_, fun k k1 k2 => ?_, fun k k1 k2 => ?_, fun k k1 k2 => ?_, fun j k k1 k2 k3 => ?_, fun w => ?_⟩
  · rw [z 0 (by omega)]; omega
  · rw [z 1 (by omega)]; omega
  · rw [z 2 (by omega)]; omega
  · rw [z 4 (by omega)]; omega
  · rw [bS_h (by omega) (by omega)]; omega
  · rw [z 0 (by omega)] at k2; omega
  · rw [z 1 (by omega)] at k2; omega
  · rw [z 2 (by omega)] at k2; omega
  · rw [z 2 (by omega)] at k3; omega
  · unfold bS
    split
    · omega
    · split <;> omega
theorem g_clear : ∃ G1, fG_clear G = some G1 ∧ hR G1 bS := by
  have z : ∀ w, w < 3 ∨ w = 4 ∨ 14 ≤ w → bS w = 0 := fun w hw => bS_0 (by omega) (by omega)
  have key : ∃ r, iter (fun s => fG_clear_b10 s.1 s.2) fu (wgF G 1 0 (hI 0), hI 0) = some r ∧ hR r bS := by
    refine it_one 9 (fun i s => ∃ G2, s = (G2, hI i) ∧ gF G2 1 0 = hI 0 ∧ ∀ w : Int, 0 ≤ w → w < i → gA G2 5 w.toNat = hI 180) _ (by omega) ⟨_, rfl, ?_, fun w w1 w2 => by omega⟩ ?_
    · exact gF_w.trans (if_pos ⟨rfl, rfl⟩)
    · rintro i s hi ⟨G2, rfl, h1, h2⟩
      show (_ ∧ ∃ s', fG_clear_b10 _ _ = _ ∧ _) ∨ ∃ r, fG_clear_b10 _ _ = _ ∧ _
      unfold fG_clear_b10
      by_cases c : i < 9
      · left
        refine ⟨c, (wgA G2 5 (upd (gA G2 5) i (hI 180)), hI ((i + 1 : Nat) : Int)), ?_, _, rfl, h1, fun w w1 w2 => ?_⟩
        · rw [show (9 : Int32) = hI 9 from rfl, ilt (by omega) (by omega) (by omega) (by omega), if_pos (by omega), wr_hI (by omega) (by omega) (by omega), bnd_s, bnd_s, show (180 : Int32) = hI 180 from rfl, show (1 : Int32) = hI 1 from rfl, hI_add]
          rfl
        · rw [gA_wA, if_pos rfl, upd_w]
          by_cases d : w = i
          · rw [if_pos (by omega)]
          · rw [if_neg (by omega)]; exact h2 w w1 (by omega)
      · right
        refine ⟨wgF (wgF (wgF (wgF G2 0 2 (hI 0)) 0 3 (hI 500)) 0 4 (hI 0)) 0 6 (hI 0), ?_, ⟨⟨?_, ?_, ?_, ?_, ?_⟩, fun b b1 b2 => ?_, fun k k1 k2 => ?_, fun k k1 k2 => ?_, fun k k1 k2 => ?_⟩⟩
        · rw [show (9 : Int32) = hI 9 from rfl, ilt (by omega) (by omega) (by omega) (by omega), if_neg (by omega)]
          rfl
        · rw [z 0 (by omega)]; exact h1
        · rw [z 4 (by omega)]; rfl
        · rfl
        · rw [z 1 (by omega)]; rfl
        · rw [z 2 (by omega)]; rfl
        · rw [bS_h (by omega) (by omega)]; exact h2 b b1 (by omega)
        · rw [z 0 (by omega)] at k2; omega
        · rw [z 1 (by omega)] at k2; omega
        · rw [z 2 (by omega)] at k2; omega
  obtain ⟨r, r1, r2⟩ := key
  refine ⟨r, ?_, r2⟩
  unfold fG_clear
  rw [bnd_s]
  exact r1
end HIH

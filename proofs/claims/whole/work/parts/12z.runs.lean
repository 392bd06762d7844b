/-! THE RUN OF A SCRIPT: stretches -/
section HIZ
variable {C : zC} {M M0 M1 M2 : zM} {G G1 : zG} {N B : Int} {L : Nat} {g : Nat → zT} {pr : Int → zT}
/-- the plan's rows from cnt on are e -/
def RW (L : Nat) (g : Nat → zT) (cnt : Nat) (e : List zT) : Prop := ∀ j, j < e.length → cnt + j < 40 → cnt + j < m40 L ∧ g (cnt + j) = nth e j
theorem RW_l {cnt : Nat} {e f : List zT} (h : RW L g cnt (e ++ f)) : RW L g cnt e := fun j hj hc => by
  have e1 := List.length_append (as := e) (bs := f)
  have := h j (by omega) hc
  rw [nth_l hj] at this
  exact this
theorem RW_r {cnt : Nat} {e f : List zT} (h : RW L g cnt (e ++ f)) : RW L g (cnt + e.length) f := fun j hj hc => by
  have e1 := List.length_append (as := e) (bs := f)
  have := h (e.length + j) (by omega) (by omega)
  rw [nth_r (by omega), show e.length + j - e.length = j by omega, show cnt + (e.length + j) = cnt + e.length + j by omega] at this
  exact this
theorem RW_1 {cnt : Nat} {x : zT} {e : List zT} (h : RW L g cnt (x :: e)) (c40 : cnt < 40) : (cnt < m40 L ∧ g cnt = x) ∧ RW L g (cnt + 1) e :=
  ⟨h 0 (Nat.zero_lt_succ _) c40, fun j hj hc => by
    have := h (j + 1) (Nat.succ_lt_succ hj) (by omega)
    rw [show cnt + (j + 1) = cnt + 1 + j by omega] at this
    exact this⟩
theorem pw_1 {l : Nat} : (1 : Int) ≤ 21 ^ l := by
  induction l with
  | zero => exact Int.le_refl 1
  | succ l ih => rw [Int.pow_succ]; omega
/-- a stretch done on both sides -/
theorem t_seg (hN : mF M0 26 = hI N) (N60 : N ≤ 60) (hB0 : 0 ≤ B) (hB : B < 800000000) (hp : hP C L g) (hpr : hPr M0 N pr) :
    ∀ (m l d : Nat) (lo hi : Int) (e : List zT) (cnt f1 f2 : Nat) (r : Int) (G : zG) (M : zM), Seg pr m l lo hi e → d + l ≤ 2 → 0 ≤ lo → hi ≤ N → cnt ≤ 40 → RW L g cnt e → 42 ≤ f1 + cnt → 2 ≤ r → (hi - lo) * 21 ^ l + r ≤ f2 → SV M0 B cnt G M →
      (∀ (cnt1 f1' f2' : Nat) (G1 : zG) (M1 : zM), cnt1 = cnt + e.length → cnt1 ≤ 40 → 42 ≤ f1' + cnt1 → r ≤ f2' → SV M0 B cnt1 G1 M1 → (∀ j, j < d → mA M1 258 j = mA M 258 j ∧ mA M1 259 j = mA M 259 j) → RN C M0 B f1' f2' cnt1 d hi G1 M1) → RN C M0 B f1 f2 cnt d lo G M := by
  intro m
  induction m with
  | zero =>
    intro l d lo hi e cnt f1 f2 r G M h1 h2 h3 h4 h5 h6 h7 h8 h9 h10 k
    obtain ⟨rfl, rfl⟩ := h1
    have z : (lo - lo) * 21 ^ l = 0 := by rw [Int.sub_self, Int.zero_mul]
    exact k cnt f1 f2 G M rfl h5 h7 (by omega) h10 (fun _ _ => ⟨rfl, rfl⟩)
  | succ m ih =>
    intro l d lo hi e cnt f1 f2 r G M h1 h2 h3 h4 h5 h6 h7 h8 h9 h10 k
    have hle := Seg_le _ _ _ _ _ h1
    have P1 := pw_1 (l := l)
    rcases h1 with ⟨rfl, rfl⟩ | ⟨hi5, e', rfl, h11⟩ | ⟨hi6, c, t, l', e1, e2, k1, k2, k3, k4, k5, rfl, k6, k7, rfl⟩
    · have z : (lo - lo) * 21 ^ l = 0 := by rw [Int.sub_self, Int.zero_mul]
      exact k cnt f1 f2 G M rfl h5 h7 (by omega) h10 (fun _ _ => ⟨rfl, rfl⟩)
    · have hle1 := Seg_le _ _ _ _ _ h11
      have z : (hi - lo) * 21 ^ l = (hi - (lo + 1)) * 21 ^ l + 21 ^ l := by rw [show hi - lo = (hi - (lo + 1)) + 1 by omega, Int.add_mul, Int.one_mul]
      have z0 : 0 ≤ (hi - (lo + 1)) * 21 ^ l := Int.mul_nonneg (by omega) (by omega)
      by_cases c40 : cnt = 40
      · exact RN_40 hp.1 hN N60 c40 h3 (by omega) (by omega) (by omega) h10
      · obtain ⟨f1, rfl⟩ : ∃ k, f1 = k + 1 := ⟨f1 - 1, by omega⟩
        obtain ⟨f2, rfl⟩ : ∃ k, f2 = k + 1 + 1 := ⟨f2 - 2, by omega⟩
        obtain ⟨⟨r1, r2⟩, r3⟩ := RW_1 h6 (by omega)
        refine RN_cmd hp.1 hN N60 hB0 hB hp hpr h3 (by omega) hi5.2 (by omega) r1 r2 h10 (fun G1 M1 hs1 hc1 => ?_)
        refine ih l d (lo + 1) hi e' (cnt + 1) f1 (f2 + 1) r G1 M1 h11 h2 (by omega) h4 (by omega) r3 (by omega) h8 (by omega) hs1 (fun cnt1 f1' f2' G2 M2 g1 g2 g3 g4 g5 g6 => ?_)
        refine k cnt1 f1' f2' G2 M2 ?_ g2 g3 g4 g5 (fun j hj => ?_)
        · rw [g1, List.length_cons]; omega
        · rw [(g6 j hj).1, (g6 j hj).2, hc1 258 (by decide), hc1 259 (by decide)]; exact ⟨rfl, rfl⟩
    · have l1 := Seg_le _ _ _ _ _ k6
      have l2 := Seg_le _ _ _ _ _ k7
      have Q1 := pw_1 (l := l')
      have x0 : 0 ≤ (c - (lo + 1)) * 21 ^ l' := Int.mul_nonneg (by omega) (by omega)
      have y0 : 0 ≤ (hi - (c + 1)) * 21 ^ (l' + 1) := Int.mul_nonneg (by omega) (by omega)
      have xy : (hi - lo) * 21 ^ (l' + 1) = 21 * ((c - (lo + 1)) * 21 ^ l') + 2 * (21 * 21 ^ l') + (hi - (c + 1)) * 21 ^ (l' + 1) := by
        have hA : (c - (lo + 1)) * (21 : Int) ^ (l' + 1) = 21 * ((c - (lo + 1)) * 21 ^ l') := by rw [Int.pow_succ, ← Int.mul_assoc, Int.mul_comm]
        have h2 : (21 : Int) ^ (l' + 1) = 21 * 21 ^ l' := by rw [Int.pow_succ, Int.mul_comm]
        rw [show hi - lo = (c - (lo + 1)) + 2 + (hi - (c + 1)) by omega, Int.add_mul, Int.add_mul, hA, h2]
      rw [xy] at h9
      generalize hX : (c - (lo + 1)) * 21 ^ l' = X at *
      generalize hY : (hi - (c + 1)) * 21 ^ (l' + 1) = Y at *
      have inner : ∀ (q cnt1 f1 f2 : Nat) (G1 : zG) (M1 : zM), q < 20 → cnt1 ≤ 40 → RW L g cnt1 (e1 ++ (rpN e1 q ++ e2)) → 42 ≤ f1 + cnt1 → ((q : Int) + 1) * (X + 1) + Y + r ≤ f2 → SV M0 B cnt1 G1 M1 → (∀ j, j < d → mA M1 258 j = mA M 258 j ∧ mA M1 259 j = mA M 259 j) → mA M1 258 d = hI lo → mA M1 259 d = hI ((q : Int) + 1) → cnt1 + (e1 ++ (rpN e1 q ++ e2)).length = cnt + (rpN e1 t ++ e2).length → RN C M0 B f1 f2 cnt1 (d + 1) (lo + 1) G1 M1 := by
        intro q
        induction q with
        | zero =>
          intro cnt1 f1 f2 G1 M1 q1 q2 q3 q4 q5 q6 q7 q8 q9 q10
          have el := List.length_append (as := e1) (bs := rpN e1 0 ++ e2)
          refine ih l' (d + 1) (lo + 1) c e1 cnt1 f1 f2 (1 + Y + r) G1 M1 k6 (by omega) (by omega) (by omega) q2 (RW_l q3) q4 (by omega) (by rw [hX]; omega) q6 (fun cnt2 f1' f2' G2 M2 g1 g2 g3 g4 g5 g6 => ?_)
          by_cases c40 : cnt2 = 40
          · exact RN_40 hp.1 hN N60 c40 (by omega) (by omega) (by omega) (by omega) g5
          · obtain ⟨f2', rfl⟩ : ∃ k, f2' = k + 1 := ⟨f2' - 1, by omega⟩
            have g7 := g6 d (by omega)
            rw [q8, q9] at g7
            refine RN_lap (q := 0) hp.1 hN N60 hpr (by omega) (by omega) (by omega) (by omega) k5 g7.1 g7.2 (by omega) g5 (fun M3 u1 u2 u3 u4 => ?_)
            rw [if_neg (by omega)]
            have q3' := RW_r q3
            rw [← g1] at q3'
            refine ih (l' + 1) d (c + 1) hi e2 cnt2 f1' f2' r G2 M3 k7 h2 (by omega) h4 g2 q3' g3 h8 (by rw [hY]; omega) u1 (fun cnt3 f1'' f2'' G4 M4 w1 w2 w3 w4 w5 w6 => ?_)
            refine k cnt3 f1'' f2'' G4 M4 ?_ w2 w3 w4 w5 (fun j hj => ?_)
            · rw [w1, g1, ← q10, el]; show _ = cnt1 + (e1.length + e2.length); omega
            · rw [(w6 j hj).1, (w6 j hj).2, (u2 j hj).1, (u2 j hj).2, (g6 j (by omega)).1, (g6 j (by omega)).2]; exact q7 j hj
        | succ q ihq =>
          intro cnt1 f1 f2 G1 M1 q1 q2 q3 q4 q5 q6 q7 q8 q9 q10
          have el := List.length_append (as := e1) (bs := rpN e1 (q + 1) ++ e2)
          have er : rpN e1 (q + 1) ++ e2 = e1 ++ (rpN e1 q ++ e2) := List.append_assoc _ _ _
          have eq : (((q + 1 : Nat) : Int) + 1) * (X + 1) = (X + 1) + ((q : Int) + 1) * (X + 1) := by
            rw [show ((q + 1 : Nat) : Int) + 1 = 1 + ((q : Int) + 1) by omega, Int.add_mul 1, Int.one_mul]
          have eq0 : 0 ≤ ((q : Int) + 1) * (X + 1) := Int.mul_nonneg (by omega) (by omega)
          rw [eq] at q5
          generalize hZ : ((q : Int) + 1) * (X + 1) = Z at *
          refine ih l' (d + 1) (lo + 1) c e1 cnt1 f1 f2 (1 + Z + Y + r) G1 M1 k6 (by omega) (by omega) (by omega) q2 (RW_l q3) q4 (by omega) (by rw [hX]; omega) q6 (fun cnt2 f1' f2' G2 M2 g1 g2 g3 g4 g5 g6 => ?_)
          by_cases c40 : cnt2 = 40
          · exact RN_40 hp.1 hN N60 c40 (by omega) (by omega) (by omega) (by omega) g5
          · obtain ⟨f2', rfl⟩ : ∃ k, f2' = k + 1 := ⟨f2' - 1, by omega⟩
            have g7 := g6 d (by omega)
            rw [q8, q9] at g7
            refine RN_lap (q := q + 1) hp.1 hN N60 hpr (by omega) (by omega) (by omega) (by omega) k5 g7.1 g7.2 (by omega) g5 (fun M3 u1 u2 u3 u4 => ?_)
            rw [if_pos (by omega)]
            have q3' := RW_r q3
            rw [← g1, er] at q3'
            refine ihq cnt2 f1' f2' G2 M3 (by omega) g2 q3' g3 (by omega) u1 (fun j hj => ?_) u3 u4 ?_
            · rw [(u2 j hj).1, (u2 j hj).2, (g6 j (by omega)).1, (g6 j (by omega)).2]; exact q7 j hj
            · rw [← q10, el, g1, er]; omega
      have t20 : ((t : Int)) * (X + 1) ≤ 20 * (X + 1) := Int.mul_le_mul_of_nonneg_right (by omega) (by omega)
      by_cases c40 : cnt = 40
      · exact RN_40 hp.1 hN N60 c40 h3 (by omega) (by omega) (by omega) h10
      · obtain ⟨f2, rfl⟩ : ∃ k, f2 = k + 1 := ⟨f2 - 1, by omega⟩
        obtain ⟨t, rfl⟩ : ∃ k, t = k + 1 := ⟨t - 1, by omega⟩
        have er : rpN e1 (t + 1) ++ e2 = e1 ++ (rpN e1 t ++ e2) := List.append_assoc _ _ _
        refine RN_open hp.1 hN N60 hpr h3 (by omega) (by omega) hi6 k4 (by omega) h10 (fun M1 u1 u2 u3 u4 => ?_)
        refine inner t cnt f1 f2 G M1 (by omega) h5 (by rw [← er]; exact h6) h7 ?_ u1 u2 u3 (by rw [u4]; rfl) (by rw [er])
        have tt : ((t : Int) + 1) = ((t + 1 : Nat) : Int) := by omega
        rw [tt]
        omega
theorem t_doesAll {e : List zT} {m : Nat} (hN : mF M 26 = hI N) (N60 : N ≤ 60) (hB0 : 0 ≤ B) (hB : B < 800000000) (hp : hP C e.length (nth e)) (hpr : hPr M N pr) (sg : Seg pr m 2 0 N e) (hr : hR G (hm M)) (hv : hV B (hm M)) :
    ∃ v G2 M2, fS_run C G = some (v, G2) ∧ fM_doesAll M = some (v, M2) ∧ hR G2 (hm M2) ∧ hV (B + 9600) (hm M2) ∧ fRn M M2 ∧ hm M2 0 = hm M 0 := by
  have hle := Seg_le _ _ _ _ _ sg
  refine t_seg (C := C) (M0 := M) (B := B) hN N60 hB0 hB hp hpr m 2 0 0 N e 0 fu fu 2 G M sg (by omega) (by omega) (by omega) (by omega) ?_ (by unfold fu; omega) (by omega) ?_ ⟨hr, hV_le (by omega) hv, fRn_rf, rfl⟩ (fun cnt1 f1 f2 G1 M1 g1 g2 g3 g4 g5 _ => ?_)
  · intro j h1 h2
    unfold m40
    rw [Nat.zero_add]
    exact ⟨by split <;> omega, rfl⟩
  · show (N - 0) * 441 + 2 ≤ ((1000000 : Nat) : Int)
    omega
  · obtain ⟨f1, rfl⟩ : ∃ k, f1 = k + 1 := ⟨f1 - 1, by omega⟩
    obtain ⟨f2, rfl⟩ : ∃ k, f2 = k + 1 := ⟨f2 - 1, by omega⟩
    obtain ⟨s1, s2, s3, s4⟩ := g5
    have hm4 := m40_le (n := e.length)
    refine ⟨hI cnt1, G1, M1, it_ex (show fS_run_b2 C G1 (hI cnt1) = _ from ?_), it_ex (show fM_doesAll_b9 M1 (hI cnt1) (hI ((0 : Nat) : Int)) (hI N) true = _ from ?_), s1, hV_le (by omega) s2, s3, s4⟩
    · unfold fS_run_b2
      rw [hp.1, ilt (by omega) (by omega) (by omega) (by omega), if_neg (by omega)]
    · unfold fM_doesAll_b9
      rw [if_pos rfl, s3.1 26 (by decide), hN, ilt (by omega) (by omega) (by omega) (by omega), if_neg (by omega)]
end HIZ

/-! THE RUN OF A SCRIPT: the class's plan and the reference's machine -/
section HIY
variable {C : zC} {M M0 M1 M2 : zM} {G G1 : zG} {N B : Int} {L : Nat} {g : Nat → zT} {pr : Int → zT}
/-- what a run leaves alone -/
def fRn (M M1 : zM) : Prop := (∀ k, k ≠ 29 → mF M1 k = mF M k) ∧ mN M1 = mN M ∧ mB M1 = mB M ∧ ∀ a, a ≠ 249 → a < 258 ∨ 259 < a → mA M1 a = mA M a
theorem fRn_rf : fRn M M := ⟨fun _ _ => rfl, rfl, rfl, fun _ _ _ => rfl⟩
theorem fRn_tr (h1 : fRn M M1) (h2 : fRn M1 M2) : fRn M M2 := ⟨fun k hk => (h2.1 k hk).trans (h1.1 k hk), h2.2.1.trans h1.2.1, h2.2.2.1.trans h1.2.2.1, fun a ha hb => (h2.2.2.2 a ha hb).trans (h1.2.2.2 a ha hb)⟩
theorem fRn_fr (h : hfr M M1) : fRn M M1 := ⟨h.1, h.2.1, h.2.2.1, fun a ha _ => h.2.2.2 a ha⟩
theorem fRn_A {a : Nat} {f : Nat → Int32} (ha : a = 258 ∨ a = 259) : fRn M (wmA M a f) := ⟨fun _ _ => rfl, rfl, rfl, fun b _ hb => mA_ne (by omega)⟩
theorem hPr_rn (h : hPr M N pr) (f : fRn M M1) : hPr M1 N pr := by
  intro k k0 k1
  obtain ⟨q3, q4, q5, q6, q7, qb⟩ := h k k0 k1
  rw [f.2.2.2 254 (by decide) (by omega), f.2.2.2 255 (by decide) (by omega), f.2.2.2 256 (by decide) (by omega), f.2.2.2 257 (by decide) (by omega)]
  exact ⟨q3, q4, q5, q6, q7, qb⟩
theorem hm_A {a : Nat} {f : Nat → Int32} (ha : a ≠ 249) : hm (wmA M a f) = hm M := by unfold hm; rw [mA_ne (Ne.symm ha)]
/-- the state before row cnt -/
def SV (M0 : zM) (B : Int) (cnt : Nat) (G : zG) (M : zM) : Prop := hR G (hm M) ∧ hV (B + 240 * cnt) (hm M) ∧ fRn M0 M ∧ hm M 0 = hm M0 0
/-- both end alike -/
def RN (C : zC) (M0 : zM) (B : Int) (f1 f2 cnt d : Nat) (pc : Int) (G : zG) (M : zM) : Prop :=
  ∃ v G2 M2, iter (fun s => fS_run_b2 C s.1 s.2) f1 (G, hI cnt) = some (v, G2) ∧ iter (fun s => fM_doesAll_b9 s.1 s.2.1 s.2.2.1 s.2.2.2.1 s.2.2.2.2) f2 (M, hI cnt, hI d, hI pc, true) = some (v, M2) ∧ hR G2 (hm M2) ∧ hV (B + 9600) (hm M2) ∧ fRn M0 M2 ∧ hm M2 0 = hm M0 0
theorem RN_40 {f1 f2 cnt d : Nat} {pc : Int} (hL : sF C 1 = hI (m40 L)) (hN : mF M0 26 = hI N) (N60 : N ≤ 60) (c40 : cnt = 40) (p0 : 0 ≤ pc) (pN : pc ≤ N) (h1 : 1 ≤ f1) (h2 : 1 ≤ f2) (hs : SV M0 B cnt G M) : RN C M0 B f1 f2 cnt d pc G M := by
  subst c40
  obtain ⟨f1, rfl⟩ : ∃ k, f1 = k + 1 := ⟨f1 - 1, by omega⟩
  obtain ⟨f2, rfl⟩ : ∃ k, f2 = k + 1 := ⟨f2 - 1, by omega⟩
  obtain ⟨s1, s2, s3, s4⟩ := hs
  have hm4 := m40_le (n := L)
  refine ⟨hI 40, G, M, it_ex ?_, it_ex ?_, s1, hV_le (by omega) s2, s3, s4⟩
  · show fS_run_b2 C G (hI 40) = _
    unfold fS_run_b2
    rw [hL, ilt (by omega) (by omega) (by omega) (by omega), if_neg (by omega)]
  · show fM_doesAll_b9 M (hI 40) (hI d) (hI pc) true = _
    unfold fM_doesAll_b9
    rw [if_pos rfl, s3.1 26 (by decide), hN, show (40 : Int32) = hI 40 from rfl, ilt (by omega) (by omega) (by omega) (by omega), ilt (by omega) (by omega) (by omega) (by omega), if_neg (show ¬ (40 : Int) < 40 by omega)]
    split <;> rfl
/-- one row of the plan, one command of the program -/
theorem RN_cmd {f1 f2 cnt d : Nat} {pc : Int} (hL : sF C 1 = hI (m40 L)) (hN : mF M0 26 = hI N) (N60 : N ≤ 60) (hB0 : 0 ≤ B) (hB : B < 800000000) (hp : hP C L g) (hpr : hPr M0 N pr) (p0 : 0 ≤ pc) (pN : pc < N) (i5 : (pr pc).1 ≤ 5) (c40 : cnt < 40) (hj : cnt < m40 L) (e : g cnt = pr pc) (hs : SV M0 B cnt G M)
    (k : ∀ G1 M1, SV M0 B (cnt + 1) G1 M1 → (∀ a, a ≠ 249 → mA M1 a = mA M a) → RN C M0 B f1 (f2 + 1) (cnt + 1) d (pc + 1) G1 M1) : RN C M0 B (f1 + 1) (f2 + 1 + 1) cnt d pc G M := by
  obtain ⟨s1, s2, s3, s4⟩ := hs
  have hm4 := m40_le (n := L)
  have hpr' := hPr_rn hpr s3
  obtain ⟨⟨i0, -⟩, q4, -⟩ := hpr' pc p0 pN
  have n6 : (hI (pr pc).1 = hI 6) = False := by rw [hI_eq (by omega) (by omega) (by omega) (by omega)]; exact eq_false (by omega)
  have n7 : (hI (pr pc).1 = hI 7) = False := by rw [hI_eq (by omega) (by omega) (by omega) (by omega)]; exact eq_false (by omega)
  have eb : ∀ (r : Option (Bool × zM)), fM_isDone M (hI pc) = r → fM_doesAll_b9 M (hI cnt) (hI d) (hI pc) true = bnd2 r fun v48 M47 => some (.inl (M47, (hI cnt + (fM_truth v48)), hI d, (hI pc + 1), v48)) := by
    intro r hr
    unfold fM_doesAll_b9
    rw [if_pos rfl, s3.1 26 (by decide), hN, show (40 : Int32) = hI 40 from rfl, show (6 : Int32) = hI 6 from rfl, show (7 : Int32) = hI 7 from rfl, ilt (by omega) (by omega) (by omega) (by omega), ilt (by omega) (by omega) (by omega) (by omega), if_pos (by omega), if_pos (by omega), rd_hI (by omega) (by omega) (by omega), bnd_s, q4, if_neg (by rw [n6]; exact id), bnd_s, if_neg (by rw [n7]; exact id), hr]
  have ec : ∀ (r : Option (Bool × zG)), fS_execute C G (hI cnt) = r → fS_run_b2 C G (hI cnt) = bnd2 r fun v2 G1 => if v2 = true then some (.inl (G1, (hI cnt + 1))) else some (.inr (hI cnt, G1)) := by
    intro r hr
    unfold fS_run_b2
    rw [hL, ilt (by omega) (by omega) (by omega) (by omega), if_pos (by omega), hr]
  rcases x_row (j := cnt) s1 s2 (by omega) hp hj hpr' p0 pN N60 e i5 with ⟨G1, M1, z1, z2, z3, z4, z5, z6⟩ | ⟨z1, z2⟩
  · have hs1 : SV M0 B (cnt + 1) G1 M1 := ⟨z3, hV_le (by omega) z4, fRn_tr s3 (fRn_fr z5), z6.trans s4⟩
    obtain ⟨v, G2, M2, a1, a2, a3, a4, a5, a6⟩ := k G1 M1 hs1 z5.2.2.2
    refine ⟨v, G2, M2, ?_, ?_, a3, a4, a5, a6⟩
    · have l : iter (fun s => fS_run_b2 C s.1 s.2) (f1 + 1) (G, hI cnt) = iter (fun s => fS_run_b2 C s.1 s.2) f1 (G1, hI ((cnt + 1 : Nat) : Int)) := it_su (show fS_run_b2 C G (hI cnt) = _ by rw [ec _ z1, bnd2_s, if_pos rfl, show (1 : Int32) = hI 1 from rfl, hI_add]; rfl)
      rw [l]; exact a1
    · have l : iter (fun s => fM_doesAll_b9 s.1 s.2.1 s.2.2.1 s.2.2.2.1 s.2.2.2.2) (f2 + 1 + 1) (M, hI cnt, hI d, hI pc, true) = iter (fun s => fM_doesAll_b9 s.1 s.2.1 s.2.2.1 s.2.2.2.1 s.2.2.2.2) (f2 + 1) (M1, hI ((cnt + 1 : Nat) : Int), hI d, hI (pc + 1), true) := it_su (show fM_doesAll_b9 M (hI cnt) (hI d) (hI pc) true = _ by rw [eb _ z2, bnd2_s, show fM_truth true = hI 1 from rfl, show (1 : Int32) = hI 1 from rfl, hI_add, hI_add]; rfl)
      rw [l]; exact a2
  · refine ⟨hI cnt, G, M, it_ex (show fS_run_b2 C G (hI cnt) = _ by rw [ec _ z1, bnd2_s, if_neg Bool.false_ne_true]), ?_, s1, hV_le (by omega) s2, s3, s4⟩
    have l : iter (fun s => fM_doesAll_b9 s.1 s.2.1 s.2.2.1 s.2.2.2.1 s.2.2.2.2) (f2 + 1 + 1) (M, hI cnt, hI d, hI pc, true) = iter (fun s => fM_doesAll_b9 s.1 s.2.1 s.2.2.1 s.2.2.2.1 s.2.2.2.2) (f2 + 1) (M, hI cnt, hI d, hI (pc + 1), false) := it_su (show fM_doesAll_b9 M (hI cnt) (hI d) (hI pc) true = _ by rw [eb _ z2, bnd2_s, show fM_truth false = hI 0 from rfl, show (1 : Int32) = hI 1 from rfl, hI_add, hI_add, show ((cnt : Nat) : Int) + 0 = cnt by omega])
    rw [l]
    refine it_ex (show fM_doesAll_b9 M (hI cnt) (hI d) (hI (pc + 1)) false = _ from ?_)
    unfold fM_doesAll_b9
    rw [if_neg Bool.false_ne_true]
/-- a repeat is entered -/
theorem RN_open {f1 f2 cnt d t : Nat} {pc : Int} (hL : sF C 1 = hI (m40 L)) (hN : mF M0 26 = hI N) (N60 : N ≤ 60) (hpr : hPr M0 N pr) (p0 : 0 ≤ pc) (pN : pc < N) (d2 : d < 2) (i6 : (pr pc).1 = 6) (ht : (pr pc).2.1 = t) (c40 : cnt < 40) (hs : SV M0 B cnt G M)
    (k : ∀ M1, SV M0 B cnt G M1 → (∀ j, j < d → mA M1 258 j = mA M 258 j ∧ mA M1 259 j = mA M 259 j) → mA M1 258 d = hI pc → mA M1 259 d = hI t → RN C M0 B f1 f2 cnt (d + 1) (pc + 1) G M1) : RN C M0 B f1 (f2 + 1) cnt d pc G M := by
  obtain ⟨s1, s2, s3, s4⟩ := hs
  have hpr' := hPr_rn hpr s3
  obtain ⟨-, q4, q5, -⟩ := hpr' pc p0 pN
  have q5' := q5 (by omega)
  rw [i6] at q4
  rw [ht] at q5'
  have dn : ((d : Nat) : Int).toNat = d := by omega
  have eb : fM_doesAll_b9 M (hI cnt) (hI d) (hI pc) true = some (.inl (wmA (wmA M 258 (upd (mA M 258) d (hI pc))) 259 (upd (mA M 259) d (hI t)), hI cnt, hI ((d + 1 : Nat) : Int), hI (pc + 1), true)) := by
    unfold fM_doesAll_b9
    rw [if_pos rfl, s3.1 26 (by decide), hN, show (40 : Int32) = hI 40 from rfl, show (6 : Int32) = hI 6 from rfl, show (7 : Int32) = hI 7 from rfl, ilt (by omega) (by omega) (by omega) (by omega), ilt (by omega) (by omega) (by omega) (by omega), if_pos (by omega), if_pos (by omega), rd_hI (by omega) (by omega) (by omega), bnd_s, q4, if_pos rfl, wr_hI (by omega) (by omega) (by omega), bnd_s, bnd_s, mA_ne (by decide), rd_hI (by omega) (by omega) (by omega), bnd_s, q5', mA_ne (by decide), wr_hI (by omega) (by omega) (by omega), bnd_s, bnd_s, dn, show (1 : Int32) = hI 1 from rfl, hI_add, hI_add]
    rfl
  obtain ⟨v, G2, M2, a1, a2, a3, a4, a5, a6⟩ := k (wmA (wmA M 258 (upd (mA M 258) d (hI pc))) 259 (upd (mA M 259) d (hI t))) ⟨by rw [hm_A (by decide), hm_A (by decide)]; exact s1, by rw [hm_A (by decide), hm_A (by decide)]; exact s2, fRn_tr s3 (fRn_tr (fRn_A (by omega)) (fRn_A (by omega))), by rw [hm_A (by decide), hm_A (by decide)]; exact s4⟩ (fun j hj => ⟨by rw [mA_ne (by decide), mA_same, upd_w, if_neg (by omega)], by rw [mA_same, upd_w, if_neg (by omega)]⟩) (by rw [mA_ne (by decide), mA_same, upd_w, if_pos rfl]) (by rw [mA_same, upd_w, if_pos rfl])
  exact ⟨v, G2, M2, a1, (it_su eb).trans a2, a3, a4, a5, a6⟩
/-- the end of a lap -/
theorem RN_lap {f1 f2 cnt d q : Nat} {pc lo : Int} (hL : sF C 1 = hI (m40 L)) (hN : mF M0 26 = hI N) (N60 : N ≤ 60) (hpr : hPr M0 N pr) (p0 : 0 ≤ pc) (pN : pc < N) (d2 : d < 2) (q20 : q < 20) (i7 : (pr pc).1 = 7) (e8 : mA M 258 d = hI lo) (e9 : mA M 259 d = hI ((q : Int) + 1)) (c40 : cnt < 40) (hs : SV M0 B cnt G M)
    (k : ∀ M1, SV M0 B cnt G M1 → (∀ j, j < d → mA M1 258 j = mA M 258 j ∧ mA M1 259 j = mA M 259 j) → mA M1 258 d = hI lo → mA M1 259 d = hI q → if 0 < q then RN C M0 B f1 f2 cnt (d + 1) (lo + 1) G M1 else RN C M0 B f1 f2 cnt d (pc + 1) G M1) : RN C M0 B f1 (f2 + 1) cnt (d + 1) pc G M := by
  obtain ⟨s1, s2, s3, s4⟩ := hs
  have hpr' := hPr_rn hpr s3
  obtain ⟨-, q4, -⟩ := hpr' pc p0 pN
  rw [i7] at q4
  have dn : ((d : Nat) : Int).toNat = d := by omega
  have n76 : (hI 7 = hI 6) = False := eq_false (by decide)
  have d1 : ((d + 1 : Nat) : Int) - 1 = (d : Int) := by omega
  have eb : fM_doesAll_b9 M (hI cnt) (hI ((d + 1 : Nat) : Int)) (hI pc) true = some (.inl (if 0 < q then (wmA M 259 (upd (mA M 259) d (hI q)), hI cnt, hI ((d + 1 : Nat) : Int), hI (lo + 1), true) else (wmA M 259 (upd (mA M 259) d (hI q)), hI cnt, hI d, hI (pc + 1), true))) := by
    unfold fM_doesAll_b9 fM_doesAll_j106
    rw [if_pos rfl, s3.1 26 (by decide), hN, show (40 : Int32) = hI 40 from rfl, show (6 : Int32) = hI 6 from rfl, show (7 : Int32) = hI 7 from rfl, ilt (by omega) (by omega) (by omega) (by omega), ilt (by omega) (by omega) (by omega) (by omega), if_pos (by omega), if_pos (by omega), rd_hI (by omega) (by omega) (by omega), bnd_s, q4, if_neg (by rw [n76]; exact id), bnd_s, if_pos rfl, show (1 : Int32) = hI 1 from rfl, hI_sub, d1, rd_hI (by omega) (by omega) (by omega), bnd_s, dn, e9, hI_sub, show (q : Int) + 1 - 1 = q by omega, wr_hI (by omega) (by omega) (by omega), bnd_s, bnd_s, dn, mA_same, rd_hI (by omega) (by omega) (by omega), bnd_s, dn, upd_w, if_pos rfl, show (0 : Int32) = hI 0 from rfl, ilt (by omega) (by omega) (by omega) (by omega), mA_ne (by decide)]
    by_cases c : 0 < q
    · rw [if_pos (by omega), if_pos rfl, if_pos c, rd_hI (by omega) (by omega) (by omega), bnd_s, dn, e8]
      unfold fM_doesAll_j129 fM_doesAll_j141
      rw [if_pos rfl, show fM_truth false = hI 0 from rfl, hI_add, hI_sub, show ((d + 1 : Nat) : Int) - 0 = ((d + 1 : Nat) : Int) by omega]
    · rw [if_neg (by omega), if_neg Bool.false_ne_true, if_neg c]
      unfold fM_doesAll_j129 fM_doesAll_j141
      rw [if_neg Bool.false_ne_true, show fM_truth true = hI 1 from rfl, hI_add, hI_sub, d1]
  have hk := k (wmA M 259 (upd (mA M 259) d (hI q))) ⟨by rw [hm_A (by decide)]; exact s1, by rw [hm_A (by decide)]; exact s2, fRn_tr s3 (fRn_A (by omega)), by rw [hm_A (by decide)]; exact s4⟩ (fun j hj => ⟨by rw [mA_ne (by decide)], by rw [mA_same, upd_w, if_neg (by omega)]⟩) (by rw [mA_ne (by decide)]; exact e8) (by rw [mA_same, upd_w, if_pos rfl])
  by_cases c : 0 < q
  · rw [if_pos c] at hk eb
    obtain ⟨v, G2, M2, a1, a2, a3, a4, a5, a6⟩ := hk
    exact ⟨v, G2, M2, a1, (it_su eb).trans a2, a3, a4, a5, a6⟩
  · rw [if_neg c] at hk eb
    obtain ⟨v, G2, M2, a1, a2, a3, a4, a5, a6⟩ := hk
    exact ⟨v, G2, M2, a1, (it_su eb).trans a2, a3, a4, a5, a6⟩
end HIY

/-! A WHOLE SCRIPT, READ -/
section HIT
variable {C C1 : zC} {M M0 M1 M2 : zM} {I I1 I2 : zI} {n p q k v x N w : Int} {pr : Int → zT} {e : List zT}
theorem it_bnd {σ ρ : Type} {b : σ → Option (σ ⊕ ρ)} {s : σ} {o : Option σ} {m : Nat} (h : b s = bnd o fun x => some (.inl x)) : iter b (m + 1) s = bnd o fun x => iter b m x := by
  cases o with
  | none => simp only [iter, h, bnd]
  | some r => simp only [iter, h, bnd]
theorem b19_c (g : fM_isGood M = true) (hk : (mF M 6 = hI 0) = False) : fM_runScript_b19 M = bnd (cmdS M) fun M1 => bnd (fM_closes M1) fun M4 => some (.inl M4) := by
  unfold fM_runScript_b19 fM_runScript_j56 cmdS
  simp only [hI_lit, hL_lit, hI_neg, hI_add, hI_sub, bnd_s, bnd2_s, bnd3_s, ↓reduceIte, eq_self, if_true, if_false, Bool.false_eq_true, Bool.true_eq_false, g, hk]
  cases fM_command M with
  | none => rfl
  | some N =>
    rw [bnd_s, bnd_s]
    by_cases c : mF N 28 = mF M 28
    · rw [if_pos c, if_pos c]
    · rw [if_neg c, if_neg c]; rfl
theorem b19_bad {f : Nat} (h : hEr I M) : iter (fun s => fM_runScript_b19 s) (f + 1) M = fM_runScript_j82 M := by
  have g := er_good h
  refine it_ex2 (show fM_runScript_b19 M = _ from ?_)
  unfold fM_runScript_b19 fM_runScript_j63
  simp only [hI_lit, hL_lit, hI_neg, hI_add, hI_sub, bnd_s, bnd2_s, bnd3_s, ↓reduceIte, eq_self, if_true, if_false, Bool.false_eq_true, Bool.true_eq_false, g]
theorem closes_no {f : Nat} (h : (∃ I, hEr I M) ∨ mF M 28 = hI 0 ∨ fM_isSign M (hI 41) = false) : iter (fun s => fM_closes_b0 s) (f + 1) M = some M := by
  refine it_ex (show fM_closes_b0 M = _ from ?_)
  unfold fM_closes_b0
  rcases h with ⟨I, h⟩ | h | h
  · simp only [hI_lit, hL_lit, hI_neg, hI_add, hI_sub, bnd_s, bnd2_s, bnd3_s, ↓reduceIte, eq_self, if_true, if_false, Bool.false_eq_true, Bool.true_eq_false, er_sign h]
    split <;> rfl
  · simp only [hI_lit, hL_lit, hI_neg, hI_add, hI_sub, bnd_s, bnd2_s, bnd3_s, ↓reduceIte, eq_self, if_true, if_false, Bool.false_eq_true, Bool.true_eq_false, h, show (hI 0 < hI 0) = False from eq_false (by decide)]
  · simp only [hI_lit, hL_lit, hI_neg, hI_add, hI_sub, bnd_s, bnd2_s, bnd3_s, ↓reduceIte, eq_self, if_true, if_false, Bool.false_eq_true, Bool.true_eq_false, h]
    split <;> rfl
def SO (M0 : zM) (a : Option (Bool × zI × zC)) (b : Option (Int32 × zM)) : Prop :=
  ∃ t I1 C1 M1, a = some (t, I1, C1) ∧ b = fM_runScript_j82 M1 ∧ fSs M0 M1 ∧ ((t = true ∧ (mF M1 8 = hI 0 ∧ mF M1 9 = hI (-1) ∧ iF I1 8 = hI 0 ∧ iF I1 9 = hI (-1)) ∧ ∃ (N w : Int) (pr : Int → zT) (e : List zT), hSc C1 M1 e.length (nth e) N w 0 pr ∧ Nest C1 pr 0 N e) ∨ (t = false ∧ hEr I1 M1))
theorem t_script : ∀ (m i : Nat) (p : Int) (d : Nat) (N w : Int) (pr : Int → zT) (e : List zT) (I : zI) (C : zC) (M : zM) (f1 f2 f3 : Nat), n - p < m → m + 1 ≤ f1 → m + 2 ≤ f2 → d + 1 ≤ f3 → (i : Int) ≤ p → hAh n p I M → hSc C M e.length (nth e) N w d pr → Nest C pr d N e → fSs M0 M →
    SO M0 (iter (fun s => fS_read_b21 s.1 s.2.1 s.2.2) f1 (I, C, hI i)) (bnd (iter (fun s => fM_closes_b0 s) f3 M) fun M4 => iter (fun s => fM_runScript_b19 s) f2 M4) := by
  intro m
  induction m with
  | zero =>
    intro i p d N w pr e I C M f1 f2 f3 h1 h2 h3 h4 h5 h6
    obtain ⟨p1, I1, a1, a2, a3, a4⟩ := h6
    obtain ⟨n1, n2, hb, e1, m3, m8, e8, e9, m9, q, kd, q1, q2, q3, k1⟩ := a2
    omega
  | succ m ih =>
    intro i p d N w pr e I C M f1 f2 f3 h1 h2 h3 h4 h5 h6 hs hn hf
    obtain ⟨f1, rfl⟩ : ∃ k, f1 = k + 1 := ⟨f1 - 1, by omega⟩
    obtain ⟨f2, rfl⟩ : ∃ k, f2 = k + 1 + 1 := ⟨f2 - 2, by omega⟩
    obtain ⟨f3, rfl⟩ : ∃ k, f3 = k + 1 := ⟨f3 - 1, by omega⟩
    have gd := ah_good h6
    obtain ⟨p1, I1, a1, a2, a3, a4⟩ := h6
    obtain ⟨n1, n2, hb, e1, m3, m8, e8, e9, m9, q, kd, q1, q2, q3, k1, k2, k3, k4, k5, k6, k7, k8, k9, k10⟩ := id a2
    obtain ⟨hp, s0, s6, m26, m27, m28, hpr, ⟨d0, d2⟩, ⟨N0, Nw⟩, ⟨w0, w30⟩⟩ := id hs
    have c6 : (hI 600 < hI i) = False := by rw [hI_lt (by omega) (by omega) (by omega) (by omega)]; exact eq_false (by omega)
    have hmk : mF M 6 = iF I1 4 := by rw [k7, k8]
    obtain ⟨sb, g1, g2, g3⟩ := t_isSign a2 (c := 41) (by omega) (by omega)
    by_cases hz : iF I1 4 = hI 0
    · have sf : sb = false := by
        cases sb with
        | false => rfl
        | true => have := g3 rfl; rw [hz] at this; exact absurd this (by decide)
      subst sf
      have hk : (mF M 6 = hI 0) = True := eq_true (by rw [hmk, hz])
      have hz' : (iF I1 4 = hI 0) = True := eq_true hz
      have l2 := closes_no (f := f3) (M := M) (Or.inr (Or.inr g2))
      rw [l2, bnd_s]
      by_cases dz : d = 0
      · subst dz
        exact ⟨true, I1, C, M, it_ex (show fS_read_b21 I C (hI i) = _ by unfold fS_read_b21; simp only [hI_lit, hL_lit, hI_neg, hI_add, hI_sub, bnd_s, bnd2_s, bnd3_s, ↓reduceIte, eq_self, if_true, if_false, Bool.false_eq_true, Bool.true_eq_false, c6, a1, hz, s6]; rfl), it_ex2 (show fM_runScript_b19 M = _ by unfold fM_runScript_b19 fM_runScript_j63; simp only [hI_lit, hL_lit, hI_neg, hI_add, hI_sub, bnd_s, bnd2_s, bnd3_s, ↓reduceIte, eq_self, if_true, if_false, Bool.false_eq_true, Bool.true_eq_false, gd, hk, m28]; rfl), hf, Or.inl ⟨rfl, ⟨m8, m9, e8, e9⟩, N, w, pr, e, hs, hn⟩⟩
      · have nd : (hI d = hI 0) = False := by rw [hI_eq (by omega) (by omega) (by omega) (by omega)]; exact eq_false (by omega)
        have l0 : (hI 0 < hI d) = True := by rw [hI_lt (by omega) (by omega) (by omega) (by omega)]; exact eq_true (by omega)
        obtain ⟨I2, M2, b1, b2, b3, b4⟩ := t_fail a2 (c := 1) (by omega) (by omega) (fun _ => rfl)
        rcases t_kind a2 with ⟨κ, -, -, -, -, h4'⟩ | ⟨hk0, -⟩
        · rw [hz] at h4'
          exact absurd h4' (by decide)
        · exact ⟨false, I2, C, M2, it_ex (show fS_read_b21 I C (hI i) = _ by unfold fS_read_b21 fS_read_j48 fS_read_j72 fS_read_j77 fS_readCommand; simp only [hI_lit, hL_lit, hI_neg, hI_add, hI_sub, bnd_s, bnd2_s, bnd3_s, ↓reduceIte, eq_self, if_true, if_false, Bool.false_eq_true, Bool.true_eq_false, c6, a1, hz, s6, nd, g1, hk0, b1]), it_ex2 (show fM_runScript_b19 M = _ by unfold fM_runScript_b19 fM_runScript_j63; simp only [hI_lit, hL_lit, hI_neg, hI_add, hI_sub, bnd_s, bnd2_s, bnd3_s, ↓reduceIte, eq_self, if_true, if_false, Bool.false_eq_true, Bool.true_eq_false, gd, hk, m28, l0, b2]), fSs_tr hf (fSs_go b4), Or.inr ⟨rfl, b3⟩⟩
    · have hk : (mF M 6 = hI 0) = False := eq_false (by rw [hmk]; exact hz)
      have hz' : (iF I1 4 = hI 0) = False := eq_false hz
      have hp1 := a4 hz
      by_cases cl : sb = true ∧ d ≠ 0
      · obtain ⟨rfl, dz⟩ := cl
        obtain ⟨d, rfl⟩ : ∃ k, d = k + 1 := ⟨d - 1, by omega⟩
        have l0 : (hI 0 < hI ((d + 1 : Nat) : Int)) = True := by rw [hI_lt (by omega) (by omega) (by omega) (by omega)]; exact eq_true (by omega)
        rcases t_closes a2 (g3 rfl) g2 hs hn with ⟨I2, C1, M1, p2, e', u1, u2, u3, u4, u5, u6, u7⟩ | ⟨I2, C1, M1, u1, u2, u3, u4⟩
        · have l1 : iter (fun s => fS_read_b21 s.1 s.2.1 s.2.2) (f1 + 1) (I, C, hI i) = iter (fun s => fS_read_b21 s.1 s.2.1 s.2.2) f1 (I2, C1, hI ((i + 1 : Nat) : Int)) := it_su (show fS_read_b21 I C (hI i) = _ by unfold fS_read_b21 fS_read_j48 fS_read_j77; simp only [hI_lit, hL_lit, hI_neg, hI_add, hI_sub, bnd_s, bnd2_s, bnd3_s, ↓reduceIte, eq_self, if_true, if_false, Bool.false_eq_true, Bool.true_eq_false, c6, a1, hz', s6, g1, l0, u1]; rfl)
          have l2 : iter (fun s => fM_closes_b0 s) (f3 + 1) M = iter (fun s => fM_closes_b0 s) f3 M1 := it_su u2
          rw [l1, l2]
          exact ih (i + 1) p2 d (N + 1) w _ e' I2 C1 M1 f1 (f2 + 1 + 1) f3 (by omega) (by omega) (by omega) (by omega) (by omega) u3 u5 u6 (fSs_tr hf u7)
        · obtain ⟨f3, rfl⟩ : ∃ k, f3 = k + 1 := ⟨f3 - 1, by omega⟩
          have l2 : iter (fun s => fM_closes_b0 s) (f3 + 1 + 1) M = some M1 := (it_su (show fM_closes_b0 M = _ from u2)).trans (closes_no (Or.inl ⟨I2, u3⟩))
          rw [l2, bnd_s]
          exact ⟨false, I2, C1, M1, it_ex (show fS_read_b21 I C (hI i) = _ by unfold fS_read_b21 fS_read_j48 fS_read_j77; simp only [hI_lit, hL_lit, hI_neg, hI_add, hI_sub, bnd_s, bnd2_s, bnd3_s, ↓reduceIte, eq_self, if_true, if_false, Bool.false_eq_true, Bool.true_eq_false, c6, a1, hz', s6, g1, l0, u1]), b19_bad (f := f2 + 1) u3, fSs_tr hf u4, Or.inr ⟨rfl, u3⟩⟩
      · have l2 : iter (fun s => fM_closes_b0 s) (f3 + 1) M = some M := by
          refine closes_no (Or.inr ?_)
          by_cases z : d = 0
          · exact Or.inl (by rw [m28, z]; rfl)
          · refine Or.inr ?_
            rw [g2]
            cases sb with
            | false => rfl
            | true => exact absurd ⟨rfl, z⟩ cl
        have cj : fS_read_b21 I C (hI i) = fS_read_j72 I1 C (hI i) := by
          unfold fS_read_b21 fS_read_j48
          cases sb with
          | false => simp only [hI_lit, hL_lit, hI_neg, hI_add, hI_sub, bnd_s, bnd2_s, bnd3_s, ↓reduceIte, eq_self, if_true, if_false, Bool.false_eq_true, Bool.true_eq_false, c6, a1, hz', g1]
          | true =>
            have z : d = 0 := Classical.byContradiction fun z => cl ⟨rfl, z⟩
            have l0 : (hI 0 < hI d) = False := by rw [z]; exact eq_false (by decide)
            simp only [hI_lit, hL_lit, hI_neg, hI_add, hI_sub, bnd_s, bnd2_s, bnd3_s, ↓reduceIte, eq_self, if_true, if_false, Bool.false_eq_true, Bool.true_eq_false, c6, a1, hz', g1, s6, l0]
        rw [l2, bnd_s]
        rcases t_cmd a2 hs with ⟨I2, C1, M1, u1, u2, u3, u4⟩ | ⟨it, I2, C1, M1, p2, u1, u2, u3, u4, u5, u6, u7, u8, u9⟩ | ⟨t, I2, C1, M1, p2, ⟨t1, t2⟩, dl, u1, u2, u3, u4, u6, u7, u8, u9⟩
        · have hb19 : fM_runScript_b19 M = bnd (fM_closes M1) fun M4 => some (.inl M4) := by rw [b19_c gd hk, u2, bnd_s]
          have hc : fM_closes M1 = some M1 := closes_no (f := 999999) (Or.inl ⟨I2, u3⟩)
          refine ⟨false, I2, C1, M1, it_ex (show fS_read_b21 I C (hI i) = _ by rw [cj]; unfold fS_read_j72 fS_read_j77; simp only [hI_lit, hL_lit, hI_neg, hI_add, hI_sub, bnd_s, bnd2_s, bnd3_s, ↓reduceIte, eq_self, if_true, if_false, Bool.false_eq_true, Bool.true_eq_false, u1]), ?_, fSs_tr hf u4, Or.inr ⟨rfl, u3⟩⟩
          rw [it_bnd (b := fun s => fM_runScript_b19 s) (m := f2 + 1) hb19, hc, bnd_s]
          exact b19_bad u3
        · have hb19 : fM_runScript_b19 M = bnd (fM_closes M1) fun M4 => some (.inl M4) := by rw [b19_c gd hk, u2, bnd_s]
          have l1 : iter (fun s => fS_read_b21 s.1 s.2.1 s.2.2) (f1 + 1) (I, C, hI i) = iter (fun s => fS_read_b21 s.1 s.2.1 s.2.2) f1 (I2, C1, hI ((i + 1 : Nat) : Int)) := it_su (show fS_read_b21 I C (hI i) = _ by rw [cj]; unfold fS_read_j72 fS_read_j77; simp only [hI_lit, hL_lit, hI_neg, hI_add, hI_sub, bnd_s, bnd2_s, bnd3_s, ↓reduceIte, eq_self, if_true, if_false, Bool.false_eq_true, Bool.true_eq_false, u1]; rfl)
          rw [l1, it_bnd (b := fun s => fM_runScript_b19 s) (m := f2 + 1) hb19]
          refine ih (i + 1) p2 d (N + 1) (w + 1) _ (e ++ [it]) I2 C1 M1 f1 (f2 + 1) fu (by omega) (by omega) (by omega) (by unfold fu; omega) (by omega) u3 ⟨?_, u6.2⟩ (Nest_cmd N0 hn u5 u7 u8) (fSs_tr hf u9)
          have e1 : (e ++ [it]).length = e.length + 1 := List.length_append
          rw [e1]
          refine hP_c u6.1 (fun j hj => ?_)
          have hm := m40_le (n := e.length + 1)
          by_cases cj : j = e.length
          · rw [if_pos cj, nth_r (by omega), cj, Nat.sub_self]; rfl
          · rw [if_neg cj, nth_l (by omega)]
        · have hb19 : fM_runScript_b19 M = bnd (fM_closes M1) fun M4 => some (.inl M4) := by rw [b19_c gd hk, u2, bnd_s]
          have l1 : iter (fun s => fS_read_b21 s.1 s.2.1 s.2.2) (f1 + 1) (I, C, hI i) = iter (fun s => fS_read_b21 s.1 s.2.1 s.2.2) f1 (I2, C1, hI ((i + 1 : Nat) : Int)) := it_su (show fS_read_b21 I C (hI i) = _ by rw [cj]; unfold fS_read_j72 fS_read_j77; simp only [hI_lit, hL_lit, hI_neg, hI_add, hI_sub, bnd_s, bnd2_s, bnd3_s, ↓reduceIte, eq_self, if_true, if_false, Bool.false_eq_true, Bool.true_eq_false, u1]; rfl)
          rw [l1, it_bnd (b := fun s => fM_runScript_b19 s) (m := f2 + 1) hb19]
          obtain ⟨t, rfl⟩ := Int.eq_ofNat_of_zero_le (show 0 ≤ t by omega)
          have dn : ((d : Nat) : Int).toNat = d := by omega
          rw [dn] at u7 u8
          exact ih (i + 1) p2 (d + 1) (N + 1) (w + 1) _ e I2 C1 M1 f1 (f2 + 1) fu (by omega) (by omega) (by omega) (by unfold fu; omega) (by omega) u3 u6 (Nest_open N0 hn (by omega) (by omega) u7 u8) (fSs_tr hf u9)
end HIT

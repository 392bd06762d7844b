/-! A COMMAND OF A SCRIPT, READ -/
section HIQ
variable {C C1 : zC} {M M1 M2 : zM} {I I1 I2 : zI} {n p p0 q k v x N w d : Int} {pr : Int → zT} {L : Nat} {g : Nat → zT}
/-- script cells, both sides -/
def hSc (C : zC) (M : zM) (L : Nat) (g : Nat → zT) (N w d : Int) (pr : Int → zT) : Prop := hP C L g ∧ sF C 0 = hI w ∧ sF C 6 = hI d ∧ mF M 26 = hI N ∧ mF M 27 = hI w ∧ mF M 28 = hI d ∧ hPr M N pr ∧ (0 ≤ d ∧ d ≤ 2) ∧ (0 ≤ N ∧ N + d ≤ 2 * w) ∧ (0 ≤ w ∧ w ≤ 30)
theorem hPr_ext {M1 : zM} {it : zT} (h : hPr M N pr) (e : ∀ a (j : Nat), 254 ≤ a → a ≤ 257 → (j : Int) ≠ N → mA M1 a j = mA M a j) (N0 : 0 ≤ N) (i0 : 0 ≤ it.1 ∧ it.1 ≤ 7) (i4 : mA M1 254 N.toNat = hI it.1) (i5 : it.1 ≤ 6 → mA M1 255 N.toNat = hI it.2.1) (i6 : it.1 ≤ 3 → mA M1 256 N.toNat = hI it.2.2.1) (i7 : it.1 = 3 → mA M1 257 N.toNat = hI it.2.2.2) (ib : it.1 ≤ 5 → (0 ≤ it.2.1 ∧ it.2.1 ≤ 9999) ∧ (0 ≤ it.2.2.1 ∧ it.2.2.1 ≤ 9999) ∧ (0 ≤ it.2.2.2 ∧ it.2.2.2 ≤ 9999)) : hPr M1 (N + 1) (ext pr N it) := by
  intro k k1 k2
  by_cases c : k = N
  · subst c
    have e0 : ext pr k it k = it := if_pos rfl
    rw [e0]
    exact ⟨i0, i4, i5, i6, i7, ib⟩
  · have e0 : ext pr N it k = pr k := if_neg c
    obtain ⟨a0, a1, a2, a3, a4, a5⟩ := h k k1 (by omega)
    rw [e0, e 254 k.toNat (by omega) (by omega) (by omega), e 255 k.toNat (by omega) (by omega) (by omega), e 256 k.toNat (by omega) (by omega) (by omega), e 257 k.toNat (by omega) (by omega) (by omega)]
    exact ⟨a0, a1, a2, a3, a4, a5⟩
theorem t_cmd (h : hAt n p I M) (hs : hSc C M L g N w d pr) :
    (∃ I1 C1 M1, fS_readCommand I C = some (false, I1, C1) ∧ cmdS M = some M1 ∧ hEr I1 M1 ∧ fSs M M1) ∨
    (∃ it I1 C1 M1 p1, fS_readCommand I C = some (true, I1, C1) ∧ cmdS M = some M1 ∧ hAh n p1 I1 M1 ∧ p < p1 ∧ (0 ≤ it.1 ∧ it.1 ≤ 5) ∧ hSc C1 M1 (L + 1) (fun j => if j = L then it else g j) (N + 1) (w + 1) d (ext pr N it) ∧ sA C1 7 = sA C 7 ∧ sA C1 8 = sA C 8 ∧ fSs M M1) ∨
    (∃ t : Int, ∃ I1 C1 M1 p1, (1 ≤ t ∧ t ≤ 20) ∧ d < 2 ∧ fS_readCommand I C = some (true, I1, C1) ∧ cmdS M = some M1 ∧ hAh n p1 I1 M1 ∧ p < p1 ∧ hSc C1 M1 L g (N + 1) (w + 1) (d + 1) (ext pr N (6, t, 0, 0)) ∧ sA C1 7 = upd (sA C 7) d.toNat (hI (m40 L)) ∧ sA C1 8 = upd (sA C 8) d.toNat (hI t) ∧ fSs M M1) := by
  obtain ⟨hp, s0, s6, m26, m27, m28, hpr, ⟨d0, d2⟩, ⟨N0, Nw⟩, ⟨w0, w30⟩⟩ := hs
  have gd := at_good h
  rcases t_kind h with ⟨κ, κ0, κ6, hk, hc, h4⟩ | ⟨hk, hc⟩
  · have nk0 := zvF (v := κ + 1) (by omega) (by omega)
    have nk1 := nvF κ0 (by omega)
    have n4 : iF I 4 = hI 4 → False := fun z => by rw [h4] at z; exact absurd z (by decide)
    by_cases cd : κ = 6 ∧ d = 2
    · obtain ⟨rfl, rfl⟩ := cd
      obtain ⟨I1, M1, k1, k2, k3, k4⟩ := cmd_bad (c := 3) h (fun z => (n4 z).elim) (by omega) (by omega) (fun _ _ _ => trivial) (fun M1 I1 e1 e2 e3 => by
        have gb := er_good e2
        unfold fM_command fM_command_j15 fM_command_j34 fM_command_j48
        simp only [hI_lit, hL_lit, hI_neg, hI_add, hI_sub, bnd_s, bnd2_s, bnd3_s, ↓reduceIte, eq_self, if_true, if_false, Bool.false_eq_true, Bool.true_eq_false, hc, nk1, m28, e1, gb, wr_no e2]
        split <;> rfl)
      exact Or.inl ⟨I1, C, M1, by unfold fS_readCommand; simp only [hI_lit, hL_lit, hI_neg, hI_add, hI_sub, bnd_s, bnd2_s, bnd3_s, ↓reduceIte, eq_self, if_true, if_false, Bool.false_eq_true, Bool.true_eq_false, hk, nk0, s6, show (hI (6 + 1) = hI 7) = True from eq_true rfl, show (hI 2 < hI 2) = False from eq_false (by decide), k1], k2, k3, k4⟩
    · have cj : fS_readCommand I C = fS_readCommand_j38 I C (hI (κ + 1)) := by
        unfold fS_readCommand
        by_cases e6 : κ = 6
        · have l2 : (hI d < hI 2) = True := by rw [hI_lt (by omega) (by omega) (by omega) (by omega)]; exact eq_true (by omega)
          have l7 : (hI (κ + 1) = hI 7) = True := eq_true (by rw [e6]; rfl)
          simp only [hI_lit, hL_lit, hI_neg, hI_add, hI_sub, bnd_s, bnd2_s, bnd3_s, ↓reduceIte, eq_self, if_true, if_false, Bool.false_eq_true, Bool.true_eq_false, hk, nk0, s6, l7, l2]
        · have l7 : (hI (κ + 1) = hI 7) = False := by rw [hI_eq (by omega) (by omega) (by omega) (by omega)]; exact eq_false (by omega)
          simp only [hI_lit, hL_lit, hI_neg, hI_add, hI_sub, bnd_s, bnd2_s, bnd3_s, ↓reduceIte, eq_self, if_true, if_false, Bool.false_eq_true, Bool.true_eq_false, hk, nk0, l7]
      have mj : fM_command M = fM_command_j34 M (hI κ) := by
        unfold fM_command fM_command_j15
        by_cases e6 : κ = 6
        · have l2 : (hI d = hI 2) = False := by rw [hI_eq (by omega) (by omega) (by omega) (by omega)]; exact eq_false (by omega)
          have l6 : (hI κ = hI 6) = True := eq_true (by rw [e6])
          simp only [hI_lit, hL_lit, hI_neg, hI_add, hI_sub, bnd_s, bnd2_s, bnd3_s, ↓reduceIte, eq_self, if_true, if_false, Bool.false_eq_true, Bool.true_eq_false, hc, nk1, m28, l6, l2]
        · have l6 : (hI κ = hI 6) = False := by rw [hI_eq (by omega) (by omega) (by omega) (by omega)]; exact eq_false (by omega)
          simp only [hI_lit, hL_lit, hI_neg, hI_add, hI_sub, bnd_s, bnd2_s, bnd3_s, ↓reduceIte, eq_self, if_true, if_false, Bool.false_eq_true, Bool.true_eq_false, hc, nk1, l6]
      by_cases cw : w = 30
      · subst cw
        obtain ⟨I1, M1, k1, k2, k3, k4⟩ := cmd_bad (c := 5) h (fun z => (n4 z).elim) (by omega) (by omega) (fun _ _ _ => trivial) (fun M1 I1 e1 e2 e3 => by
          have gb := er_good e2
          rw [mj]
          unfold fM_command_j34 fM_command_j48
          simp only [hI_lit, hL_lit, hI_neg, hI_add, hI_sub, bnd_s, bnd2_s, bnd3_s, ↓reduceIte, eq_self, if_true, if_false, Bool.false_eq_true, Bool.true_eq_false, m27, e1, gb])
        exact Or.inl ⟨I1, C, M1, by rw [cj]; unfold fS_readCommand_j38; simp only [hI_lit, hL_lit, hI_neg, hI_add, hI_sub, bnd_s, bnd2_s, bnd3_s, ↓reduceIte, eq_self, if_true, if_false, Bool.false_eq_true, Bool.true_eq_false, s0, show (hI 30 < hI 30) = False from eq_false (by decide), k1], k2, k3, k4⟩
      · have l30 : (hI w < hI 30) = True := by rw [hI_lt (by omega) (by omega) (by omega) (by omega)]; exact eq_true (by omega)
        have l30' : (hI w = hI 30) = False := by rw [hI_eq (by omega) (by omega) (by omega) (by omega)]; exact eq_false cw
        have f11 : hfs M (wmF M 27 (hI (w + 1))) := hfs_F (by omega) (by omega) hfs_rf
        obtain ⟨M12, g1, g2, g3⟩ := t_go (at_fs h f11)
        have e26 : mF M12 26 = hI N := by rw [g3.1 26 (by omega), mF_ne (by decide)]; exact m26
        have e27 : mF M12 27 = hI (w + 1) := by rw [g3.1 27 (by omega), mF_same]
        have e28 : mF M12 28 = hI d := by rw [g3.1 28 (by omega), mF_ne (by decide)]; exact m28
        have wrN : ∀ (f : Nat → Int32) (v : Int32), wr 60 f (hI N) v = some (upd f N.toNat v) := fun f v => wr_hI N0 (by omega) (by omega)
        have hA := ah_fs g2 (hfs_A (M := M12) (a := 254) (f := upd (mA M12 254) N.toNat (hI κ)) (by omega) (by omega) hfs_rf)
        have fr15 : fSs M (wmA M12 254 (upd (mA M12 254) N.toNat (hI κ))) := fSs_tr (fSs_F (a := 27) (by omega) (by omega)) (fSs_tr (fSs_go g3) (fSs_A (by omega) (by omega)))
        have r15 : ∀ a (j : Nat), 254 ≤ a → a ≤ 257 → (j : Int) ≠ N → mA (wmA M12 254 (upd (mA M12 254) N.toNat (hI κ))) a j = mA M a j := by
          intro a j h1 h2 h3
          by_cases ca : a = 254
          · rw [ca, mA_same, upd_w, if_neg (by omega), g3.2.2]; rfl
          · rw [mA_ne ca, g3.2.2]; rfl
        have r15k : mA (wmA M12 254 (upd (mA M12 254) N.toNat (hI κ))) 254 N.toNat = hI κ := w_at
        have hp2 : hP (wsF C 0 (hI (w + 1))) L g := hP_F (by decide) hp
        by_cases e6 : κ = 6
        · subst e6
          have dl : d < 2 := by omega
          have l6 : (hI 6 = hI 6) = True := eq_true rfl
          have l7 : (hI (6 + 1) = hI 7) = True := eq_true rfl
          have kt : fM_truth true = hI 1 := rfl
          have x6 : sF (wsF C 0 (hI (w + 1))) 6 = hI d := by rw [sF_ne (by decide)]; exact s6
          have x1 : sF (wsF C 0 (hI (w + 1))) 1 = hI (m40 L) := hp2.1
          have wr2 : ∀ (f : Nat → Int32) (v : Int32), wr 2 f (hI d) v = some (upd f d.toNat v) := fun f v => wr_hI d0 (by omega) (by omega)
          rcases t_num (lo := 1) (hi := 20) hA (by omega) (by omega) (by omega) (by omega) with ⟨v, p1, I1, M9, v1, v2, c1, c2, c3, c4, c5⟩ | ⟨I1, M9, u, c1, c2, c3, c4⟩
          · have nv := nvF (v := v) (by omega) (by omega)
            have hB := ah_fs c3 (hfs_w (N := N) (a := 255) (v := hI v) (by omega))
            have qB : fQ N (wmA M12 254 (upd (mA M12 254) N.toNat (hI 6))) (wmA M9 255 (upd (mA M9 255) N.toNat (hI v))) := fQ_tr (fQ_go c5) (fQ_w N0 (by omega))
            have aB : mA (wmA M9 255 (upd (mA M9 255) N.toNat (hI v))) 255 N.toNat = hI v := w_at
            generalize hM28 : wmA M9 255 (upd (mA M9 255) N.toNat (hI v)) = M28 at *
            have y6 : ∀ a f, sF (wsA (wsF C 0 (hI (w + 1))) a f) 6 = hI d := fun a f => x6
            have y7 : ∀ a b f g, sF (wsA (wsA (wsF C 0 (hI (w + 1))) a f) b g) 6 = hI d := fun a b f g => x6
            rcases t_sign (c := 40) hB (by omega) (by omega) with ⟨p2, I2, M20, t1, t2, t3, t4, t5⟩ | ⟨I2, M20, t1, t2, t3, t4⟩
            · have gb := ah_good t3
              have e20 : mF M20 26 = hI N := by rw [t5.1 26 (by omega), qB.1 26 (by omega)]; exact e26
              have e20' : mF M20 28 = hI d := by rw [t5.1 28 (by omega), qB.1 28 (by omega)]; exact e28
              have e18 : mF (wmF M20 26 (hI (N + 1))) 28 = hI d := by rw [mF_ne (by decide)]; exact e20'
              have nd : (hI (d + 1) = hI d) = False := by rw [hI_eq (by omega) (by omega) (by omega) (by omega)]; exact eq_false (by omega)
              have f19 : hfs M20 (wmF (wmF M20 26 (hI (N + 1))) 28 (hI (d + 1))) := hfs_F (by omega) (by omega) (hfs_F (by omega) (by omega) hfs_rf)
              refine Or.inr (Or.inr ⟨v, I2, wsF (wsA (wsA (wsF C 0 (hI (w + 1))) 7 (upd (sA C 7) d.toNat (hI (m40 L)))) 8 (upd (sA C 8) d.toNat (hI v))) 6 (hI (d + 1)), wmF (wmF M20 26 (hI (N + 1))) 28 (hI (d + 1)), p2, ⟨v1, v2⟩, dl, ?_, ?_, ah_fs t3 f19, by omega, ⟨⟨hp2.1, hp2.2⟩, ?_, ?_, ?_, ?_, ?_, ?_, by omega, by omega, by omega⟩, ?_, ?_, ?_⟩)
              · rw [cj]
                unfold fS_readCommand_j38 fS_openRepeat
                simp only [hI_lit, hL_lit, hI_neg, hI_add, hI_sub, bnd_s, bnd2_s, bnd3_s, ↓reduceIte, eq_self, if_true, if_false, Bool.false_eq_true, Bool.true_eq_false, s0, l30, l7, c1, nv, x6, x1, wr2, y6, y7, t1]
                rfl
              · unfold cmdS
                rw [mj]
                unfold fM_command_j34 fM_command_j48 fM_command_j122 fM_readsRest
                simp only [hI_lit, hL_lit, hI_neg, hI_add, hI_sub, bnd_s, bnd2_s, bnd3_s, ↓reduceIte, eq_self, if_true, if_false, Bool.false_eq_true, Bool.true_eq_false, m27, l30', gd, g1, e26, wrN, c2, hM28, t2, gb, e20, e18, kt, mF_same, m28, nd]
              · rfl
              · exact sF_same
              · rw [mF_ne (by decide), mF_same]
              · rw [mF_ne (by decide), mF_ne (by decide), t5.1 27 (by omega), qB.1 27 (by omega)]; exact e27
              · exact mF_same
              · have rr : ∀ a : Nat, mA (wmF (wmF M20 26 (hI (N + 1))) 28 (hI (d + 1))) a = mA M28 a := fun a => by rw [mA_wF, mA_wF, t5.2.2]
                refine hPr_ext hpr (fun a j h1 h2 h3 => ?_) N0 ⟨by omega, by omega⟩ ?_ (fun _ => ?_) (fun z => absurd z (by show ¬ (6 : Int) ≤ 3; omega)) (fun z => absurd z (by show ¬ (6 : Int) = 3; omega)) (fun z => absurd z (by show ¬ (6 : Int) ≤ 5; omega))
                · rw [rr, qB.2.2.2 a j h3]; exact r15 a j h1 h2 h3
                · rw [rr, qB.2.2.1 254 (by decide) (by decide) (by decide)]; exact r15k
                · rw [rr]; exact aB
              · rfl
              · rfl
              · exact fSs_tr fr15 (fSs_tr (fSs_Q qB) (fSs_tr (fSs_go t5) (fSs_tr (fSs_F (a := 26) (by omega) (by omega)) (fSs_F (a := 28) (by omega) (by omega)))))
            · have gb := er_good t3
              have e20' : mF M20 28 = hI d := by rw [t4.1 28 (by omega), qB.1 28 (by omega)]; exact e28
              refine Or.inl ⟨I2, wsF (wsA (wsA (wsF C 0 (hI (w + 1))) 7 (upd (sA C 7) d.toNat (hI (m40 L)))) 8 (upd (sA C 8) d.toNat (hI v))) 6 (hI (d + 1)), M20, ?_, ?_, t3, fSs_tr fr15 (fSs_tr (fSs_Q qB) (fSs_go t4))⟩
              · rw [cj]
                unfold fS_readCommand_j38 fS_openRepeat
                simp only [hI_lit, hL_lit, hI_neg, hI_add, hI_sub, bnd_s, bnd2_s, bnd3_s, ↓reduceIte, eq_self, if_true, if_false, Bool.false_eq_true, Bool.true_eq_false, s0, l30, l7, c1, nv, x6, x1, wr2, y6, y7, t1]
                rfl
              · unfold cmdS
                rw [mj]
                unfold fM_command_j34 fM_command_j48 fM_readsRest
                simp only [hI_lit, hL_lit, hI_neg, hI_add, hI_sub, bnd_s, bnd2_s, bnd3_s, ↓reduceIte, eq_self, if_true, if_false, Bool.false_eq_true, Bool.true_eq_false, m27, l30', gd, g1, e26, wrN, c2, hM28, t2, gb, e20', m28, b_sign gb]
          · have eB := er_fs c3 (hfs_w (N := N) (a := 255) (v := u) (by omega))
            have qB : fQ N (wmA M12 254 (upd (mA M12 254) N.toNat (hI 6))) (wmA M9 255 (upd (mA M9 255) N.toNat u)) := fQ_tr (fQ_go c4) (fQ_w N0 (by omega))
            generalize hM28 : wmA M9 255 (upd (mA M9 255) N.toNat u) = M28 at *
            have gb := er_good eB
            have e20' : mF M28 28 = hI d := by rw [qB.1 28 (by omega)]; exact e28
            refine Or.inl ⟨I1, wsF C 0 (hI (w + 1)), M28, ?_, ?_, eB, fSs_tr fr15 (fSs_Q qB)⟩
            · rw [cj]
              unfold fS_readCommand_j38 fS_openRepeat
              simp only [hI_lit, hL_lit, hI_neg, hI_add, hI_sub, bnd_s, bnd2_s, bnd3_s, ↓reduceIte, eq_self, if_true, if_false, Bool.false_eq_true, Bool.true_eq_false, s0, l30, l7, c1]
            · unfold cmdS
              rw [mj]
              unfold fM_command_j34 fM_command_j48 fM_readsRest
              simp only [hI_lit, hL_lit, hI_neg, hI_add, hI_sub, bnd_s, bnd2_s, bnd3_s, ↓reduceIte, eq_self, if_true, if_false, Bool.false_eq_true, Bool.true_eq_false, m27, l30', gd, g1, e26, wrN, c2, hM28, gb, e20', m28, b_sign gb]
        · have l6 : (hI κ = hI 6) = False := by rw [hI_eq (by omega) (by omega) (by omega) (by omega)]; exact eq_false e6
          have l7 : (hI (κ + 1) = hI 7) = False := by rw [hI_eq (by omega) (by omega) (by omega) (by omega)]; exact eq_false (by omega)
          have kt : fM_truth false = hI 0 := rfl
          rcases t_nums (C := wsF C 0 (hI (w + 1))) (κ := κ) (N := N) hA κ0 (by omega) N0 (by omega) with ⟨a, b, c, p1, I1, M16, c1, c2, c3, c4, c5, c6⟩ | ⟨I1, M16, c1, c2, c3, c4⟩
          · have gb := ah_good c3
            have e16 : mF M16 28 = hI d := by rw [c5.1 28 (by omega)]; exact e28
            have e16' : mF M16 26 = hI N := by rw [c5.1 26 (by omega)]; exact e26
            have e18 : mF (wmF M16 26 (hI (N + 1))) 28 = hI d := by rw [mF_ne (by decide)]; exact e16
            have f19 : hfs M16 (wmF (wmF M16 26 (hI (N + 1))) 28 (hI d)) := hfs_F (by omega) (by omega) (hfs_F (by omega) (by omega) hfs_rf)
            have mo : ∀ M2, fM_mustSign (wmF (wmF M16 26 (hI (N + 1))) 28 (hI d)) (hI 59) = some M2 → cmdS M = some M2 := by
              intro M2 e
              unfold cmdS
              rw [mj]
              unfold fM_command_j34 fM_command_j48 fM_command_j122
              simp only [hI_lit, hL_lit, hI_neg, hI_add, hI_sub, bnd_s, bnd2_s, bnd3_s, ↓reduceIte, eq_self, if_true, if_false, Bool.false_eq_true, Bool.true_eq_false, m27, l30', gd, g1, e26, wrN, c2, gb, e16', l6, e18, kt, Int.add_zero, mF_same, m28, e]
            obtain ⟨C3, q1, q2, q3⟩ := g_plan (it := (κ, a, b, c)) (hP_c (g' := fun j => if j = L then (κ, a, b, c) else g j) hp2 (fun j hj => if_neg (by have := m40_le (n := L); omega))) (fun _ => if_pos rfl)
            have q1' : fS_plan (wsF C 0 (hI (w + 1))) (hI (κ + 1)) (hI a) (hI b) (hI c) = some C3 := q1
            rcases t_sign (c := 59) (ah_fs c3 f19) (by omega) (by omega) with ⟨p2, I2, M20, s1, s2, s3, s4, s5⟩ | ⟨I2, M20, s1, s2, s3, s4⟩
            · refine Or.inr (Or.inl ⟨(κ, a, b, c), I2, C3, M20, p2, by rw [cj]; unfold fS_readCommand_j38; simp only [hI_lit, hL_lit, hI_neg, hI_add, hI_sub, bnd_s, bnd2_s, bnd3_s, ↓reduceIte, eq_self, if_true, if_false, Bool.false_eq_true, Bool.true_eq_false, s0, l30, l7, c1, q1', s1], mo _ s2, s3, by omega, ⟨κ0, by omega⟩, ⟨q2, ?_, ?_, ?_, ?_, ?_, ?_, ⟨d0, d2⟩, by omega, by omega⟩, ?_, ?_, ?_⟩)
              · rw [q3.1 0 (by decide), sF_same]
              · rw [q3.1 6 (by decide), sF_ne (by decide)]; exact s6
              · rw [s5.1 26 (by omega), mF_ne (by decide), mF_same]
              · rw [s5.1 27 (by omega), mF_ne (by decide), mF_ne (by decide), c5.1 27 (by omega)]; exact e27
              · rw [s5.1 28 (by omega), mF_same]
              · have rr : ∀ a : Nat, mA M20 a = mA M16 a := fun a => by rw [s5.2.2]; rfl
                refine hPr_ext hpr (fun a j h1 h2 h3 => ?_) N0 ⟨κ0, by omega⟩ ?_ (fun _ => ?_) (fun z => ?_) (fun z => ?_) (fun _ => ⟨c6.2.2.2.2.2.1, c6.2.2.2.2.2.2.1, c6.2.2.2.2.2.2.2⟩)
                · rw [rr, c5.2.2.2 a j h3]; exact r15 a j h1 h2 h3
                · rw [rr, c5.2.2.1 254 (by decide) (by decide) (by decide)]; exact r15k
                · rw [rr]; exact c6.1
                · rw [rr]; exact c6.2.1 z
                · rw [rr]; exact c6.2.2.1 z
              · exact q3.2 7 (by omega)
              · exact q3.2 8 (by omega)
              · exact fSs_tr fr15 (fSs_tr (fSs_Q c5) (fSs_tr (fSs_F (a := 26) (by omega) (by omega)) (fSs_tr (fSs_F (a := 28) (by omega) (by omega)) (fSs_go s5))))
            · exact Or.inl ⟨I2, C3, M20, by rw [cj]; unfold fS_readCommand_j38; simp only [hI_lit, hL_lit, hI_neg, hI_add, hI_sub, bnd_s, bnd2_s, bnd3_s, ↓reduceIte, eq_self, if_true, if_false, Bool.false_eq_true, Bool.true_eq_false, s0, l30, l7, c1, q1', s1], mo _ s2, s3, fSs_tr fr15 (fSs_tr (fSs_Q c5) (fSs_tr (fSs_F (a := 26) (by omega) (by omega)) (fSs_tr (fSs_F (a := 28) (by omega) (by omega)) (fSs_go s4))))⟩
          · have gb := er_good c3
            have e16 : mF M16 28 = hI d := by rw [c4.1 28 (by omega)]; exact e28
            refine Or.inl ⟨I1, wsF C 0 (hI (w + 1)), M16, by rw [cj]; unfold fS_readCommand_j38; simp only [hI_lit, hL_lit, hI_neg, hI_add, hI_sub, bnd_s, bnd2_s, bnd3_s, ↓reduceIte, eq_self, if_true, if_false, Bool.false_eq_true, Bool.true_eq_false, s0, l30, l7, c1], ?_, c3, fSs_tr fr15 (fSs_Q c4)⟩
            unfold cmdS
            rw [mj]
            unfold fM_command_j34 fM_command_j48
            simp only [hI_lit, hL_lit, hI_neg, hI_add, hI_sub, bnd_s, bnd2_s, bnd3_s, ↓reduceIte, eq_self, if_true, if_false, Bool.false_eq_true, Bool.true_eq_false, m27, l30', gd, g1, e26, wrN, c2, gb, e16, m28, b_sign gb]
  · obtain ⟨I1, M1, k1, k2, k3, k4⟩ := cmd_bad (c := 1) h (fun _ => rfl) (by omega) (by omega) (fun _ _ _ => trivial) (fun M1 I1 e1 e2 e3 => by
      have gb := er_good e2
      unfold fM_command fM_command_j15 fM_command_j34 fM_command_j48
      simp only [hI_lit, hL_lit, hI_neg, hI_add, hI_sub, bnd_s, bnd2_s, bnd3_s, ↓reduceIte, eq_self, if_true, if_false, Bool.false_eq_true, Bool.true_eq_false, hc, e1, gb, wr_no e2, show (hI (-1) = hI 6) = False from eq_false (by decide)]
      split <;> rfl)
    exact Or.inl ⟨I1, C, M1, by unfold fS_readCommand; simp only [hI_lit, hL_lit, hI_neg, hI_add, hI_sub, bnd_s, bnd2_s, bnd3_s, ↓reduceIte, eq_self, if_true, if_false, Bool.false_eq_true, Bool.true_eq_false, hk, k1], k2, k3, k4⟩
end HIQ

/-! A REPEAT CLOSED, BOTH SIDES -/
section HIS
variable {C C1 : zC} {M M1 M2 : zM} {I I1 I2 : zI} {n p q k v x N w : Int} {pr : Int → zT} {e : List zT} {d : Nat}
theorem t_closes (h : hAt n p I M) (hk : iF I 4 = hI 3) (hg : fM_isSign M (hI 41) = true) (hs : hSc C M e.length (nth e) N w ((d : Int) + 1) pr) (hn : Nest C pr (d + 1) N e) :
    (∃ I1 C1 M1 p1 e', fS_closeRepeat I C = some (true, I1, C1) ∧ fM_closes_b0 M = some (.inl M1) ∧ hAh n p1 I1 M1 ∧ p < p1 ∧ hSc C1 M1 e'.length (nth e') (N + 1) w d (ext pr N (7, 0, 0, 0)) ∧ Nest C1 (ext pr N (7, 0, 0, 0)) d (N + 1) e' ∧ fSs M M1) ∨
    (∃ I1 C1 M1, fS_closeRepeat I C = some (false, I1, C1) ∧ fM_closes_b0 M = some (.inl M1) ∧ hEr I1 M1 ∧ fSs M M1) := by
  obtain ⟨hp, s0, s6, m26, m27, m28, hpr, ⟨d0, d2⟩, ⟨N0, Nw⟩, ⟨w0, w30⟩⟩ := hs
  obtain ⟨t, e0, e1, rfl, t1, t2, a7, a8, hc⟩ := Nest_close (z := (7, 0, 0, 0)) (by omega) N0 hn rfl
  have dn : ((d : Nat) : Int).toNat = d := by omega
  have hp' : hP C (e0.length + e1.length) (nth (e0 ++ rpN e1 t)) := by
    rw [List.length_append] at hp
    refine hP_c hp (fun j hj => nth_rp t1 ?_)
    have := m40_le (n := e0.length + e1.length)
    omega
  obtain ⟨C2, c1, c2, c3, c4, c5, c6⟩ := t_close (I := I) (d := (d : Int)) t1 t2 (by omega) (by omega) s6 (by rw [dn]; exact a7) (by rw [dn]; exact a8) hp' (fun j hj => per_rp hj)
  have hl : (e0 ++ rpN e1 t).length = e0.length + e1.length * t := by rw [List.length_append, rpN_len, Nat.mul_comm]
  have f8 : hfs M (wmF (wmA (wmF M 28 (hI d)) 254 (upd (mA M 254) N.toNat (hI 7))) 26 (hI (N + 1))) := hfs_F (by omega) (by omega) (hfs_A (by omega) (by omega) (hfs_F (by omega) (by omega) hfs_rf))
  have s8 : fSs M (wmF (wmA (wmF M 28 (hI d)) 254 (upd (mA M 254) N.toNat (hI 7))) 26 (hI (N + 1))) := fSs_tr (fSs_F (a := 28) (by omega) (by omega)) (fSs_tr (fSs_A (a := 254) (by omega) (by omega)) (fSs_F (a := 26) (by omega) (by omega)))
  have q26 : mF (wmF (wmA (wmF M 28 (hI d)) 254 (upd (mA M 254) N.toNat (hI 7))) 26 (hI (N + 1))) 26 = hI (N + 1) := mF_same
  have q28 : mF (wmF (wmA (wmF M 28 (hI d)) 254 (upd (mA M 254) N.toNat (hI 7))) 26 (hI (N + 1))) 28 = hI d := by rw [mF_ne (by decide), mF_wA, mF_same]
  have q27 : mF (wmF (wmA (wmF M 28 (hI d)) 254 (upd (mA M 254) N.toNat (hI 7))) 26 (hI (N + 1))) 27 = hI w := by rw [mF_ne (by decide), mF_wA, mF_ne (by decide)]; exact m27
  have qa : ∀ a (j : Nat), 254 ≤ a → a ≤ 257 → (j : Int) ≠ N → mA (wmF (wmA (wmF M 28 (hI d)) 254 (upd (mA M 254) N.toNat (hI 7))) 26 (hI (N + 1))) a j = mA M a j := by
    intro a j h1 h2 h3
    rw [mA_wF]
    by_cases ca : a = 254
    · rw [ca, mA_same, upd_w, if_neg (by omega)]
    · rw [mA_ne ca]; rfl
  have qb : mA (wmF (wmA (wmF M 28 (hI d)) 254 (upd (mA M 254) N.toNat (hI 7))) 26 (hI (N + 1))) 254 N.toNat = hI 7 := by rw [mA_wF, mA_same, upd_w, if_pos rfl]
  have mo : ∀ M9 M10, fM_goOnRead (wmF (wmA (wmF M 28 (hI d)) 254 (upd (mA M 254) N.toNat (hI 7))) 26 (hI (N + 1))) = some M9 → fM_mustSign M9 (hI 59) = some M10 → fM_closes_b0 M = some (.inl M10) := by
    intro M9 M10 x1 x2
    have l0 : (hI 0 < hI ((d : Int) + 1)) = True := by rw [hI_lt (by omega) (by omega) (by omega) (by omega)]; exact eq_true (by omega)
    have dd : (d : Int) + 1 - 1 = d := by omega
    have y1 : mF (wmF M 28 (hI d)) 26 = hI N := by rw [mF_ne (by decide)]; exact m26
    have y2 : ∀ f, mF (wmA (wmF M 28 (hI d)) 254 f) 26 = hI N := fun f => y1
    have y3 : mA (wmF M 28 (hI d)) 254 = mA M 254 := rfl
    have wrN : ∀ (f : Nat → Int32) (v : Int32), wr 60 f (hI N) v = some (upd f N.toNat v) := fun f v => wr_hI N0 (by omega) (by omega)
    unfold fM_closes_b0
    simp only [hI_lit, hL_lit, hI_neg, hI_add, hI_sub, bnd_s, bnd2_s, bnd3_s, ↓reduceIte, eq_self, if_true, if_false, Bool.false_eq_true, Bool.true_eq_false, m28, l0, hg, dd, y1, y2, y3, wrN, x1, x2]
  generalize wmF (wmA (wmF M 28 (hI d)) 254 (upd (mA M 254) N.toNat (hI 7))) 26 (hI (N + 1)) = M8 at *
  obtain ⟨M9, g1, g2, g3⟩ := t_go (at_fs h f8)
  rcases t_sign (c := 59) g2 (by omega) (by omega) with ⟨p2, I2, M20, k1, k2, k3, k4, k5⟩ | ⟨I2, M20, k1, k2, k3, k4⟩
  · refine Or.inl ⟨I2, C2, M20, p2, e0 ++ rpN e1 t, ?_, mo M9 M20 g1 k2, k3, k4, ⟨by rw [hl]; exact c2, c4.trans s0, c3, ?_, ?_, ?_, ?_, by omega, by omega, ⟨w0, w30⟩⟩, hc C2 c5 c6, fSs_tr s8 (fSs_tr (fSs_go g3) (fSs_go k5))⟩
    · rw [c1]
      unfold fS_closeRepeat_j97
      simp only [hI_lit, hL_lit, hI_neg, hI_add, hI_sub, bnd_s, bnd2_s, bnd3_s, ↓reduceIte, eq_self, if_true, if_false, Bool.false_eq_true, Bool.true_eq_false, k1]
    · rw [k5.1 26 (by omega), g3.1 26 (by omega)]; exact q26
    · rw [k5.1 27 (by omega), g3.1 27 (by omega)]; exact q27
    · rw [k5.1 28 (by omega), g3.1 28 (by omega)]; exact q28
    · have rr : ∀ a : Nat, mA M20 a = mA M8 a := fun a => by rw [k5.2.2, g3.2.2]
      refine hPr_ext hpr (fun a j h1 h2 h3 => ?_) N0 ⟨by omega, by omega⟩ ?_ (fun z => absurd z (by show ¬ (7 : Int) ≤ 6; omega)) (fun z => absurd z (by show ¬ (7 : Int) ≤ 3; omega)) (fun z => absurd z (by show ¬ (7 : Int) = 3; omega)) (fun z => absurd z (by show ¬ (7 : Int) ≤ 5; omega))
      · rw [rr]; exact qa a j h1 h2 h3
      · rw [rr]; exact qb
  · refine Or.inr ⟨I2, C2, M20, ?_, mo M9 M20 g1 k2, k3, fSs_tr s8 (fSs_tr (fSs_go g3) (fSs_go k4))⟩
    rw [c1]
    unfold fS_closeRepeat_j97
    simp only [hI_lit, hL_lit, hI_neg, hI_add, hI_sub, bnd_s, bnd2_s, bnd3_s, ↓reduceIte, eq_self, if_true, if_false, Bool.false_eq_true, Bool.true_eq_false, k1]
end HIS

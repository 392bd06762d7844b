/-! THE ROWS of the methods: each function is what the pure machine does (6) -/
set_option maxRecDepth 2000 in
theorem rw_hoursUntilTear {S : Nat} {xs : Nat → Int32} {I : zI} {C : zC} {Y : Nat → Int32} {Γ : Nat → zG} {D : zD} {O : Nat → Int32} {M : zM} {ou : Nat → Int64} {od : Nat → UInt64} {j : Nat} {a1 : Int32} {X : Int32 × (Nat → zG) × (Nat → Int64) × Nat}   (hx : fw_hoursUntilTear Γ ou j a1 = some X) : Ev S xs 382 0 [some (.ref 0), some (.int a1), some (.ref 261), none] [] (zH I C Y Γ D O M ou od j) (((.inl (some (.int X.1))), (zH I C Y X.2.1 D O M X.2.2.1 od X.2.2.2)) : (Option Value ⊕ String) × px_H) := by
  generalize hM : (((.inl (some (.int X.1))), (zH I C Y X.2.1 D O M X.2.2.1 od X.2.2.2)) : (Option Value ⊕ String) × px_H) = y
  replace hM := hM.symm
  have hk : pt_mt[382]? = some pt_r382 := rfl
  unfold fw_hoursUntilTear at hx
  refine ev_ls (L' := [some (.ref 0), some (.int a1), some (.ref 261), none]) (st' := [.ref 261]) (pc' := 1) hk (.aload_n 2) 1 rfl rfl rfl rfl ?_
  refine ev_op (st' := [.int 0, .ref 261]) (pc' := 2) hk (.iconst 0) 1 rfl rfl rfl ?_
  refine ev_ls (L' := [some (.ref 0), some (.int a1), some (.ref 261), none]) (st' := [.ref 0, .int 0, .ref 261]) (pc' := 3) hk (.aload_n 0) 1 rfl rfl rfl rfl ?_
  refine ev_ls (L' := [some (.ref 0), some (.int a1), some (.ref 261), none]) (st' := [.int a1, .ref 0, .int 0, .ref 261]) (pc' := 4) hk (.iload_n 1) 1 rfl rfl rfl rfl ?_
  obtain ⟨r7, Γ2, hc3, hx⟩ := bnd2_some hx
  rcases r7 with v5 | E4
  · simp only [Sum.elim_inl] at hx
    refine ev_cv 319 1 [.int v5, .int 0, .ref 261] 7 hk rfl rfl rfl rfl lk_dh rfl rfl rfl (rX_hoursUntilTear hc3) rfl rfl rfl rfl ?_
    refine ev_op (st' := [.long (Int32.toInt64 v5), .int 0, .ref 261]) (pc' := 8) hk (.i2l) 1 rfl rfl rfl ?_
    obtain ⟨ou6, hou6, hx⟩ := bnd_some hx
    have hou6 := Option.some.inj hou6
    refine ev_las (A := (vp_updL ou 0 (Int32.toInt64 v5))) rfl 9 hk rfl lk_ou (sa_ou hou6) rfl ?_
    refine ev_jp (pc' := 15) (st' := []) hk (.goto 6) 3 rfl rfl rfl rfl rfl ?_
    refine ev_op (st' := [.int 0]) (pc' := 16) hk (.iconst 0) 1 rfl rfl rfl ?_
    cases hx
    obtain rfl := hM
    exact ev_retI hk rfl rfl
  · simp only [Sum.elim_inr] at hx
    rcases ite_or hx with ⟨hE, hx⟩ | ⟨hE, hx⟩
    · subst hE
      refine ev_cvC 319 1 13 hk rfl rfl rfl rfl lk_dh rfl rfl rfl (t := 12) (by decide +kernel) (L' := [some (.ref 0), some (.int a1), some (.ref 261), none]) rfl (rX_hoursUntilTear hc3) rfl rfl ?_
      refine ev_op (st' := [.int 1]) (pc' := 14) hk (.iconst 1) 1 rfl rfl rfl ?_
      cases hx
      obtain rfl := hM
      exact ev_retI hk rfl rfl
    cases hx
def qM_untilTorn_2 (S : Nat) (xs : Nat → Int32) (I : zI) (C : zC) (Y : Nat → Int32) (Γ : Nat → zG) (D : zD) (O : Nat → Int32) (ou : Nat → Int64) (od : Nat → UInt64) (j : Nat) (a1 : Int32) (y : (Option Value ⊕ String) × px_H) (s : zM × Int32) : Prop := Ev S xs 191 2 [some (.ref 247), some (.int a1), some (.int s.2)] [] (zH I C Y Γ D O s.1 ou od j) y
set_option maxRecDepth 4000 in
theorem rM_untilTorn_b2 {S : Nat} {xs : Nat → Int32} {I : zI} {C : zC} {Y : Nat → Int32} {Γ : Nat → zG} {D : zD} {O : Nat → Int32} {ou : Nat → Int64} {od : Nat → UInt64} {j : Nat} {a1 : Int32} {y : (Option Value ⊕ String) × px_H} {s : zM × Int32} {x : (zM × Int32) ⊕ (Int32 × zM)}  (hx : fM_untilTorn_b2 a1 s.1 s.2 = some x) (hM : (Sum.elim (qM_untilTorn_2 S xs I C Y Γ D O ou od j a1 y) (fun X : Int32 × zM => y = (((.inl (some (.int X.1))), (zH I C Y Γ D O X.2 ou od j)) : (Option Value ⊕ String) × px_H))) x) : qM_untilTorn_2 S xs I C Y Γ D O ou od j a1 y s := by
  obtain ⟨M, a2⟩ := s
  have hk : pt_mt[191]? = some pt_r191 := rfl
  unfold fM_untilTorn_b2 at hx
  try dsimp only at hx
  refine ev_ls (L' := [some (.ref 247), some (.int a1), some (.int a2)]) (st' := [.int a2]) (pc' := 3) hk (.iload_n 2) 1 rfl rfl rfl rfl ?_
  refine ev_op (st' := [.int 300, .int a2]) (pc' := 6) hk (.sipush 300) 3 rfl rfl rfl ?_
  refine ev_d2 33 9 hk rfl rfl rfl rfl (px_cgt hx (fun hc hx => ?_) (fun hc hx => ?_))
  · refine ev_op (st' := [.int (-1)]) (pc' := 34) hk (.iconst (-1)) 1 rfl rfl rfl ?_
    cases hx
    obtain rfl := hM
    exact ev_retI hk rfl rfl
  · refine ev_ls (L' := [some (.ref 247), some (.int a1), some (.int a2)]) (st' := [.ref 247]) (pc' := 10) hk (.aload_n 0) 1 rfl rfl rfl rfl ?_
    refine ev_ls (L' := [some (.ref 247), some (.int a1), some (.int a2)]) (st' := [.int a1, .ref 247]) (pc' := 11) hk (.iload_n 1) 1 rfl rfl rfl rfl ?_
    obtain ⟨v3, hc4, hx⟩ := bnd_some hx
    refine ev_cv 98 1 [.int (b2i v3)] 14 hk rfl rfl rfl rfl lk_model rfl rfl rfl (rM_isTornSeam hc4) rfl rfl rfl rfl ?_
    refine ev_d1 19 17 hk rfl rfl rfl rfl (px_beq hx (fun hc hx => ?_) (fun hc hx => ?_))
    · refine ev_ls (L' := [some (.ref 247), some (.int a1), some (.int a2)]) (st' := [.ref 247]) (pc' := 20) hk (.aload_n 0) 1 rfl rfl rfl rfl ?_
      refine ev_ls (L' := [some (.ref 247), some (.int a1), some (.int a2)]) (st' := [.ref 247, .ref 247]) (pc' := 21) hk (.aload_n 0) 1 rfl rfl rfl rfl ?_
      obtain ⟨v6, M5, hc7, hx⟩ := bnd2_some hx
      refine ev_cv 150 0 [.int v6, .ref 247] 24 hk rfl rfl rfl rfl lk_model rfl rfl rfl (rM_passesOne hc7) rfl rfl rfl rfl ?_
      obtain ⟨M8, hM8, hx⟩ := bnd_some hx
      have hM8 := Option.some.inj hM8
      refine ev_pf 27 hk rfl rfl lk_model rfl rfl rfl (sf_8_29 hM8) rfl ?_
      refine ev_ls (L' := [some (.ref 247), some (.int a1), some (.int (a2 + 1))]) (st' := []) (pc' := 30) hk (.iinc 2 1) 3 rfl rfl rfl rfl ?_
      refine ev_jp (pc' := 2) (st' := []) hk (.goto (-28)) 3 rfl rfl rfl rfl rfl ?_
      cases hx
      exact hM
    · refine ev_ls (L' := [some (.ref 247), some (.int a1), some (.int a2)]) (st' := [.int a2]) (pc' := 18) hk (.iload_n 2) 1 rfl rfl rfl rfl ?_
      cases hx
      obtain rfl := hM
      exact ev_retI hk rfl rfl
set_option maxRecDepth 2000 in
theorem rM_untilTorn {S : Nat} {xs : Nat → Int32} {I : zI} {C : zC} {Y : Nat → Int32} {Γ : Nat → zG} {D : zD} {O : Nat → Int32} {M : zM} {ou : Nat → Int64} {od : Nat → UInt64} {j : Nat} {a1 : Int32} {X : Int32 × zM}   (hx : fM_untilTorn M a1 = some X) : Ev S xs 191 0 [some (.ref 247), some (.int a1), none] [] (zH I C Y Γ D O M ou od j) (((.inl (some (.int X.1))), (zH I C Y Γ D O X.2 ou od j)) : (Option Value ⊕ String) × px_H) := by
  generalize hM : (((.inl (some (.int X.1))), (zH I C Y Γ D O X.2 ou od j)) : (Option Value ⊕ String) × px_H) = y
  replace hM := hM.symm
  have hk : pt_mt[191]? = some pt_r191 := rfl
  unfold fM_untilTorn at hx
  refine ev_op (st' := [.int 0]) (pc' := 1) hk (.iconst 0) 1 rfl rfl rfl ?_
  refine ev_ls (L' := [some (.ref 247), some (.int a1), some (.int 0)]) (st' := []) (pc' := 2) hk (.istore_n 2) 1 rfl rfl rfl rfl ?_
  exact ev_iter (qM_untilTorn_2 S xs I C Y Γ D O ou od j a1 _) (fun X : Int32 × zM => y = (((.inl (some (.int X.1))), (zH I C Y Γ D O X.2 ou od j)) : (Option Value ⊕ String) × px_H)) (fun s x hb hM => rM_untilTorn_b2 hb hM) fu _ _ hx hM 
set_option maxRecDepth 2000 in
theorem rM_hoursUntilTear {S : Nat} {xs : Nat → Int32} {I : zI} {C : zC} {Y : Nat → Int32} {Γ : Nat → zG} {D : zD} {O : Nat → Int32} {M : zM} {ou : Nat → Int64} {od : Nat → UInt64} {j : Nat} {a1 : Int32} {X : Int32 × zM}   (hx : fM_hoursUntilTear M a1 = some X) : Ev S xs 75 0 [some (.ref 247), some (.int a1)] [] (zH I C Y Γ D O M ou od j) (((.inl (some (.int X.1))), (zH I C Y Γ D O X.2 ou od j)) : (Option Value ⊕ String) × px_H) := by
  generalize hM : (((.inl (some (.int X.1))), (zH I C Y Γ D O X.2 ou od j)) : (Option Value ⊕ String) × px_H) = y
  replace hM := hM.symm
  have hk : pt_mt[75]? = some pt_r75 := rfl
  unfold fM_hoursUntilTear at hx
  refine ev_ls (L' := [some (.ref 247), some (.int a1)]) (st' := [.ref 247]) (pc' := 1) hk (.aload_n 0) 1 rfl rfl rfl rfl ?_
  refine ev_ls (L' := [some (.ref 247), some (.int a1)]) (st' := [.ref 247, .ref 247]) (pc' := 2) hk (.aload_n 0) 1 rfl rfl rfl rfl ?_
  refine ev_ls (L' := [some (.ref 247), some (.int a1)]) (st' := [.int a1, .ref 247, .ref 247]) (pc' := 3) hk (.iload_n 1) 1 rfl rfl rfl rfl ?_
  refine ev_cv 85 1 [.int (b2i (fM_isGore M a1)), .ref 247] 6 hk rfl rfl rfl rfl lk_model rfl rfl rfl (rM_isGore rfl) rfl rfl rfl rfl ?_
  obtain ⟨v2, M1, hc3, hx⟩ := bnd2_some hx
  refine ev_cv 59 1 [.int (b2i v2)] 9 hk rfl rfl rfl rfl lk_model rfl rfl rfl (rM_goes hc3) rfl rfl rfl rfl ?_
  refine ev_d1 14 12 hk rfl rfl rfl rfl (px_bne hx (fun hc hx => ?_) (fun hc hx => ?_))
  · refine ev_ls (L' := [some (.ref 247), some (.int a1)]) (st' := [.ref 247]) (pc' := 15) hk (.aload_n 0) 1 rfl rfl rfl rfl ?_
    obtain ⟨M4, hc5, hx⟩ := bnd_some hx
    refine ev_cv 72 0 [] 18 hk rfl rfl rfl rfl lk_model rfl rfl rfl (rM_holds hc5) rfl rfl rfl rfl ?_
    refine ev_ls (L' := [some (.ref 247), some (.int a1)]) (st' := [.ref 247]) (pc' := 19) hk (.aload_n 0) 1 rfl rfl rfl rfl ?_
    refine ev_ls (L' := [some (.ref 247), some (.int a1)]) (st' := [.ref 247, .ref 247]) (pc' := 20) hk (.aload_n 0) 1 rfl rfl rfl rfl ?_
    refine ev_ls (L' := [some (.ref 247), some (.int a1)]) (st' := [.int a1, .ref 247, .ref 247]) (pc' := 21) hk (.iload_n 1) 1 rfl rfl rfl rfl ?_
    obtain ⟨v7, M6, hc8, hx⟩ := bnd2_some hx
    refine ev_cv 191 1 [.int v7, .ref 247] 24 hk rfl rfl rfl rfl lk_model rfl rfl rfl (rM_untilTorn hc8) rfl rfl rfl rfl ?_
    obtain ⟨v10, M9, hc11, hx⟩ := bnd2_some hx
    refine ev_cv 152 1 [.int v10] 27 hk rfl rfl rfl rfl lk_model rfl rfl rfl (rM_putBack hc11) rfl rfl rfl rfl ?_
    cases hx
    obtain rfl := hM
    exact ev_retI hk rfl rfl
  · refine ev_op (st' := [.int 0]) (pc' := 13) hk (.iconst 0) 1 rfl rfl rfl ?_
    cases hx
    obtain rfl := hM
    exact ev_retI hk rfl rfl
set_option maxRecDepth 2000 in
theorem rX_stepObstacle {S : Nat} {xs : Nat → Int32} {I : zI} {C : zC} {Y : Nat → Int32} {Γ : Nat → zG} {D : zD} {O : Nat → Int32} {M : zM} {ou : Nat → Int64} {od : Nat → UInt64} {j : Nat} {a1 : Int32} {a2 : Int32} {X : (Int32 ⊕ String)}   (hx : fX_stepObstacle Γ a1 a2 = some X) : Ev S xs 358 0 [some (.ref 0), some (.int a1), some (.int a2)] [] (zH I C Y Γ D O M ou od j) (Sum.elim (fun v => ((.inl (some (.int v))), (zH I C Y Γ D O M ou od j))) (fun E => (.inr E, (zH I C Y Γ D O M ou od (j + 1)))) X : (Option Value ⊕ String) × px_H) := by
  generalize hM : (Sum.elim (fun v => ((.inl (some (.int v))), (zH I C Y Γ D O M ou od j))) (fun E => (.inr E, (zH I C Y Γ D O M ou od (j + 1)))) X : (Option Value ⊕ String) × px_H) = y
  replace hM := hM.symm
  have hk : pt_mt[358]? = some pt_r358 := rfl
  unfold fX_stepObstacle at hx
  refine ev_ls (L' := [some (.ref 0), some (.int a1), some (.int a2)]) (st' := [.ref 0]) (pc' := 1) hk (.aload_n 0) 1 rfl rfl rfl rfl ?_
  refine ev_ls (L' := [some (.ref 0), some (.int a1), some (.int a2)]) (st' := [.int a1, .ref 0]) (pc' := 2) hk (.iload_n 1) 1 rfl rfl rfl rfl ?_
  rcases bnx_some hx with ⟨⟨⟩, hc2, hx⟩ | ⟨E3, hc2, hx⟩
  · skip
    refine ev_cv 344 1 [] 5 hk rfl rfl rfl rfl lk_dh rfl rfl rfl (rX_needSpot hc2) rfl rfl rfl rfl ?_
    refine ev_ls (L' := [some (.ref 0), some (.int a1), some (.int a2)]) (st' := [.int a2]) (pc' := 6) hk (.iload_n 2) 1 rfl rfl rfl rfl ?_
    refine ev_cs 322 1 [.int (b2i (fX_isDirection a2))] 9 hk rfl rfl (by decide) rfl rfl rfl (rX_isDirection rfl) rfl rfl rfl rfl ?_
    refine ev_d1 23 12 hk rfl rfl rfl rfl (px_bne hx (fun hc hx => ?_) (fun hc hx => ?_))
    · refine ev_ls (L' := [some (.ref 0), some (.int a1), some (.int a2)]) (st' := [.ref 0]) (pc' := 24) hk (.aload_n 0) 1 rfl rfl rfl rfl ?_
      refine ev_gf (.ref 10) 27 hk rfl rfl lk_dh rfl rfl ?_
      refine ev_ls (L' := [some (.ref 0), some (.int a1), some (.int a2)]) (st' := [.ref 0, .ref 10]) (pc' := 28) hk (.aload_n 0) 1 rfl rfl rfl rfl ?_
      refine ev_gf (.ref 10) 31 hk rfl rfl lk_dh rfl rfl ?_
      refine ev_gf (.ref (10 + 6)) 34 hk rfl rfl (lk_globe isG_10 rfl) rfl rfl ?_
      refine ev_ls (L' := [some (.ref 0), some (.int a1), some (.int a2)]) (st' := [.int a1, .ref (10 + 6), .ref 10]) (pc' := 35) hk (.iload_n 1) 1 rfl rfl rfl rfl ?_
      obtain ⟨p5, hp5, hx⟩ := bnd_some hx
      have hpp5 := rix_lt hp5
      refine ev_aal (10 + (7 + p5)) hp5 36 hk rfl (lk_spots isG_10 rfl) (by decide) (lk_sp hpp5) rfl ?_
      refine ev_ls (L' := [some (.ref 0), some (.int a1), some (.int a2)]) (st' := [.int a2, .ref (10 + (7 + p5)), .ref 10]) (pc' := 37) hk (.iload_n 2) 1 rfl rfl rfl rfl ?_
      obtain ⟨v6, hc7, hx⟩ := bnd_some hx
      refine ev_cv 251 2 [.int v6] 40 hk rfl rfl rfl rfl (lk_globe isG_10 rfl) rfl rfl rfl (ev_gs2 (rG_stepHindrance isG_10 hpp5 hc7)) rfl rfl rfl rfl ?_
      cases hx
      obtain rfl := hM
      exact ev_retI hk rfl rfl
    · cases hx
      obtain rfl := hM
      exact ev_tw hk rfl (by rfl) rfl zH_j
  · skip
    cases hx
    obtain rfl := hM
    exact ev_cvX 344 1 hk rfl rfl rfl rfl lk_dh rfl rfl rfl rfl (rX_needSpot hc2) rfl rfl
set_option maxRecDepth 2000 in
theorem rw_stepObstacle {S : Nat} {xs : Nat → Int32} {I : zI} {C : zC} {Y : Nat → Int32} {Γ : Nat → zG} {D : zD} {O : Nat → Int32} {M : zM} {ou : Nat → Int64} {od : Nat → UInt64} {j : Nat} {a1 : Int32} {a2 : Int32} {X : Int32 × (Nat → Int64) × Nat}   (hx : fw_stepObstacle Γ ou j a1 a2 = some X) : Ev S xs 405 0 [some (.ref 0), some (.int a1), some (.int a2), some (.ref 261), none] [] (zH I C Y Γ D O M ou od j) (((.inl (some (.int X.1))), (zH I C Y Γ D O M X.2.1 od X.2.2)) : (Option Value ⊕ String) × px_H) := by
  generalize hM : (((.inl (some (.int X.1))), (zH I C Y Γ D O M X.2.1 od X.2.2)) : (Option Value ⊕ String) × px_H) = y
  replace hM := hM.symm
  have hk : pt_mt[405]? = some pt_r405 := rfl
  unfold fw_stepObstacle at hx
  refine ev_ls (L' := [some (.ref 0), some (.int a1), some (.int a2), some (.ref 261), none]) (st' := [.ref 261]) (pc' := 1) hk (.aload_n 3) 1 rfl rfl rfl rfl ?_
  refine ev_op (st' := [.int 0, .ref 261]) (pc' := 2) hk (.iconst 0) 1 rfl rfl rfl ?_
  refine ev_ls (L' := [some (.ref 0), some (.int a1), some (.int a2), some (.ref 261), none]) (st' := [.ref 0, .int 0, .ref 261]) (pc' := 3) hk (.aload_n 0) 1 rfl rfl rfl rfl ?_
  refine ev_ls (L' := [some (.ref 0), some (.int a1), some (.int a2), some (.ref 261), none]) (st' := [.int a1, .ref 0, .int 0, .ref 261]) (pc' := 4) hk (.iload_n 1) 1 rfl rfl rfl rfl ?_
  refine ev_ls (L' := [some (.ref 0), some (.int a1), some (.int a2), some (.ref 261), none]) (st' := [.int a2, .int a1, .ref 0, .int 0, .ref 261]) (pc' := 5) hk (.iload_n 2) 1 rfl rfl rfl rfl ?_
  rcases bnx_some hx with ⟨v4, hc2, hx⟩ | ⟨E3, hc2, hx⟩
  · skip
    refine ev_cv 358 2 [.int v4, .int 0, .ref 261] 8 hk rfl rfl rfl rfl lk_dh rfl rfl rfl (rX_stepObstacle hc2) rfl rfl rfl rfl ?_
    refine ev_op (st' := [.long (Int32.toInt64 v4), .int 0, .ref 261]) (pc' := 9) hk (.i2l) 1 rfl rfl rfl ?_
    obtain ⟨ou5, hou5, hx⟩ := bnd_some hx
    have hou5 := Option.some.inj hou5
    refine ev_las (A := (vp_updL ou 0 (Int32.toInt64 v4))) rfl 10 hk rfl lk_ou (sa_ou hou5) rfl ?_
    refine ev_jp (pc' := 21) (st' := []) hk (.goto 11) 3 rfl rfl rfl rfl rfl ?_
    refine ev_op (st' := [.int 0]) (pc' := 22) hk (.iconst 0) 1 rfl rfl rfl ?_
    cases hx
    obtain rfl := hM
    exact ev_retI hk rfl rfl
  · skip
    rcases ite_or hx with ⟨hE, hx⟩ | ⟨hE, hx⟩
    · subst hE
      refine ev_cvC 358 2 15 hk rfl rfl rfl rfl lk_dh rfl rfl rfl (t := 13) (by decide +kernel) (L' := [some (.ref 0), some (.int a1), some (.int a2), some (.ref 261), none]) rfl (rX_stepObstacle hc2) rfl rfl ?_
      refine ev_op (st' := [.int 1]) (pc' := 16) hk (.iconst 1) 1 rfl rfl rfl ?_
      cases hx
      obtain rfl := hM
      exact ev_retI hk rfl rfl
    rcases ite_or hx with ⟨hE, hx⟩ | ⟨hE, hx⟩
    · subst hE
      refine ev_cvC 358 2 19 hk rfl rfl rfl rfl lk_dh rfl rfl rfl (t := 17) (by decide +kernel) (L' := [some (.ref 0), some (.int a1), some (.int a2), some (.ref 261), none]) rfl (rX_stepObstacle hc2) rfl rfl ?_
      refine ev_op (st' := [.int 2]) (pc' := 20) hk (.iconst 2) 1 rfl rfl rfl ?_
      cases hx
      obtain rfl := hM
      exact ev_retI hk rfl rfl
    cases hx
set_option maxRecDepth 2000 in
theorem rM_stepObstacle {S : Nat} {xs : Nat → Int32} {I : zI} {C : zC} {Y : Nat → Int32} {Γ : Nat → zG} {D : zD} {O : Nat → Int32} {M : zM} {ou : Nat → Int64} {od : Nat → UInt64} {j : Nat} {a1 : Int32} {a2 : Int32} {X : Int32 × zM}   (hx : fM_stepObstacle M a1 a2 = some X) : Ev S xs 172 0 [some (.ref 247), some (.int a1), some (.int a2)] [] (zH I C Y Γ D O M ou od j) (((.inl (some (.int X.1))), (zH I C Y Γ D O X.2 ou od j)) : (Option Value ⊕ String) × px_H) := by
  generalize hM : (((.inl (some (.int X.1))), (zH I C Y Γ D O X.2 ou od j)) : (Option Value ⊕ String) × px_H) = y
  replace hM := hM.symm
  have hk : pt_mt[172]? = some pt_r172 := rfl
  unfold fM_stepObstacle at hx
  refine ev_ls (L' := [some (.ref 247), some (.int a1), some (.int a2)]) (st' := [.ref 247]) (pc' := 1) hk (.aload_n 0) 1 rfl rfl rfl rfl ?_
  refine ev_ls (L' := [some (.ref 247), some (.int a1), some (.int a2)]) (st' := [.ref 247, .ref 247]) (pc' := 2) hk (.aload_n 0) 1 rfl rfl rfl rfl ?_
  refine ev_ls (L' := [some (.ref 247), some (.int a1), some (.int a2)]) (st' := [.int a1, .ref 247, .ref 247]) (pc' := 3) hk (.iload_n 1) 1 rfl rfl rfl rfl ?_
  refine ev_cv 92 1 [.int (b2i (fM_isSpot M a1)), .ref 247] 6 hk rfl rfl rfl rfl lk_model rfl rfl rfl (rM_isSpot rfl) rfl rfl rfl rfl ?_
  refine ev_ls (L' := [some (.ref 247), some (.int a1), some (.int a2)]) (st' := [.int a2, .int (b2i (fM_isSpot M a1)), .ref 247]) (pc' := 7) hk (.iload_n 2) 1 rfl rfl rfl rfl ?_
  refine ev_op (st' := [.long (Int32.toInt64 a2), .int (b2i (fM_isSpot M a1)), .ref 247]) (pc' := 8) hk (.i2l) 1 rfl rfl rfl ?_
  refine ev_op (st' := [.long 0, .long (Int32.toInt64 a2), .int (b2i (fM_isSpot M a1)), .ref 247]) (pc' := 9) hk (.lconst 0) 1 rfl rfl rfl ?_
  refine ev_op (st' := [.long 1, .long 0, .long (Int32.toInt64 a2), .int (b2i (fM_isSpot M a1)), .ref 247]) (pc' := 10) hk (.lconst 1) 1 rfl rfl rfl ?_
  refine ev_cs 86 3 [.int (b2i (fM_isIn (Int32.toInt64 a2) 0 1)), .int (b2i (fM_isSpot M a1)), .ref 247] 13 hk rfl rfl (by decide) rfl rfl rfl (rM_isIn rfl) rfl rfl rfl rfl ?_
  obtain ⟨v2, M1, hc3, hx⟩ := bnd2_some hx
  refine ev_cv 61 2 [.int (b2i v2)] 16 hk rfl rfl rfl rfl lk_model rfl rfl rfl (rM_goesBoth hc3) rfl rfl rfl rfl ?_
  refine ev_d1 21 19 hk rfl rfl rfl rfl (px_bne hx (fun hc hx => ?_) (fun hc hx => ?_))
  · refine ev_ls (L' := [some (.ref 247), some (.int a1), some (.int a2)]) (st' := [.ref 247]) (pc' := 22) hk (.aload_n 0) 1 rfl rfl rfl rfl ?_
    refine ev_ls (L' := [some (.ref 247), some (.int a1), some (.int a2)]) (st' := [.int a1, .ref 247]) (pc' := 23) hk (.iload_n 1) 1 rfl rfl rfl rfl ?_
    refine ev_ls (L' := [some (.ref 247), some (.int a1), some (.int a2)]) (st' := [.int a2, .int a1, .ref 247]) (pc' := 24) hk (.iload_n 2) 1 rfl rfl rfl rfl ?_
    obtain ⟨v4, hc5, hx⟩ := bnd_some hx
    refine ev_cv 173 2 [.int v4] 27 hk rfl rfl rfl rfl lk_model rfl rfl rfl (rM_stepWhy hc5) rfl rfl rfl rfl ?_
    cases hx
    obtain rfl := hM
    exact ev_retI hk rfl rfl
  · refine ev_op (st' := [.int 0]) (pc' := 20) hk (.iconst 0) 1 rfl rfl rfl ?_
    cases hx
    obtain rfl := hM
    exact ev_retI hk rfl rfl
set_option maxRecDepth 2000 in
theorem rX_labelObstacle {S : Nat} {xs : Nat → Int32} {I : zI} {C : zC} {Y : Nat → Int32} {Γ : Nat → zG} {D : zD} {O : Nat → Int32} {M : zM} {ou : Nat → Int64} {od : Nat → UInt64} {j : Nat} {a1 : Int32} {a2 : Int32} {X : (Int32 ⊕ String)}   (hx : fX_labelObstacle I Γ a1 a2 = some X) : Ev S xs 331 0 [some (.ref 0), some (.int a1), some (.int a2)] [] (zH I C Y Γ D O M ou od j) (Sum.elim (fun v => ((.inl (some (.int v))), (zH I C Y Γ D O M ou od j))) (fun E => (.inr E, (zH I C Y Γ D O M ou od (j + 1)))) X : (Option Value ⊕ String) × px_H) := by
  generalize hM : (Sum.elim (fun v => ((.inl (some (.int v))), (zH I C Y Γ D O M ou od j))) (fun E => (.inr E, (zH I C Y Γ D O M ou od (j + 1)))) X : (Option Value ⊕ String) × px_H) = y
  replace hM := hM.symm
  have hk : pt_mt[331]? = some pt_r331 := rfl
  unfold fX_labelObstacle at hx
  refine ev_ls (L' := [some (.ref 0), some (.int a1), some (.int a2)]) (st' := [.int a1]) (pc' := 1) hk (.iload_n 1) 1 rfl rfl rfl rfl ?_
  refine ev_ls (L' := [some (.ref 0), some (.int a1), some (.int a2)]) (st' := [.int a2, .int a1]) (pc' := 2) hk (.iload_n 2) 1 rfl rfl rfl rfl ?_
  rcases bnx_some hx with ⟨⟨⟩, hc1, hx⟩ | ⟨E2, hc1, hx⟩
  · skip
    refine ev_cs 343 2 [] 5 hk rfl rfl (by decide) rfl rfl rfl (rX_needPlace hc1) rfl rfl rfl rfl ?_
    refine ev_ls (L' := [some (.ref 0), some (.int a1), some (.int a2)]) (st' := [.ref 0]) (pc' := 6) hk (.aload_n 0) 1 rfl rfl rfl rfl ?_
    refine ev_gf (.ref 10) 9 hk rfl rfl lk_dh rfl rfl ?_
    refine ev_ls (L' := [some (.ref 0), some (.int a1), some (.int a2)]) (st' := [.ref 0, .ref 10]) (pc' := 10) hk (.aload_n 0) 1 rfl rfl rfl rfl ?_
    refine ev_gf (.ref 1) 13 hk rfl rfl lk_dh rfl rfl ?_
    obtain ⟨v4, hc5, hx⟩ := bnd_some hx
    refine ev_cv 278 0 [.long v4, .ref 10] 16 hk rfl rfl rfl rfl lk_input rfl rfl rfl (rI_wholeWord hc5) rfl rfl rfl rfl ?_
    obtain ⟨v6, hc7, hx⟩ := bnd_some hx
    refine ev_cs 299 1 [.int v6, .ref 10] 19 hk rfl rfl (by decide) rfl rfl rfl (rW_letterCount hc7) rfl rfl rfl rfl ?_
    refine ev_ls (L' := [some (.ref 0), some (.int a1), some (.int a2)]) (st' := [.int a1, .int v6, .ref 10]) (pc' := 20) hk (.iload_n 1) 1 rfl rfl rfl rfl ?_
    refine ev_ls (L' := [some (.ref 0), some (.int a1), some (.int a2)]) (st' := [.int a2, .int a1, .int v6, .ref 10]) (pc' := 21) hk (.iload_n 2) 1 rfl rfl rfl rfl ?_
    obtain ⟨v8, hc9, hx⟩ := bnd_some hx
    refine ev_cv 231 3 [.int v8] 24 hk rfl rfl rfl rfl (lk_globe isG_10 rfl) rfl rfl rfl (ev_gs2 (rG_labelHindrance isG_10 hc9)) rfl rfl rfl rfl ?_
    cases hx
    obtain rfl := hM
    exact ev_retI hk rfl rfl
  · skip
    cases hx
    obtain rfl := hM
    exact ev_csX 343 2 hk rfl rfl (by decide) rfl rfl rfl rfl (rX_needPlace hc1) rfl rfl
set_option maxRecDepth 2000 in
theorem rw_labelObstacle {S : Nat} {xs : Nat → Int32} {I : zI} {C : zC} {Y : Nat → Int32} {Γ : Nat → zG} {D : zD} {O : Nat → Int32} {M : zM} {ou : Nat → Int64} {od : Nat → UInt64} {j : Nat} {a1 : Int32} {a2 : Int32} {X : Int32 × (Nat → Int64) × Nat}   (hx : fw_labelObstacle I Γ ou j a1 a2 = some X) : Ev S xs 389 0 [some (.ref 0), some (.int a1), some (.int a2), some (.ref 261), none] [] (zH I C Y Γ D O M ou od j) (((.inl (some (.int X.1))), (zH I C Y Γ D O M X.2.1 od X.2.2)) : (Option Value ⊕ String) × px_H) := by
  generalize hM : (((.inl (some (.int X.1))), (zH I C Y Γ D O M X.2.1 od X.2.2)) : (Option Value ⊕ String) × px_H) = y
  replace hM := hM.symm
  have hk : pt_mt[389]? = some pt_r389 := rfl
  unfold fw_labelObstacle at hx
  refine ev_ls (L' := [some (.ref 0), some (.int a1), some (.int a2), some (.ref 261), none]) (st' := [.ref 261]) (pc' := 1) hk (.aload_n 3) 1 rfl rfl rfl rfl ?_
  refine ev_op (st' := [.int 0, .ref 261]) (pc' := 2) hk (.iconst 0) 1 rfl rfl rfl ?_
  refine ev_ls (L' := [some (.ref 0), some (.int a1), some (.int a2), some (.ref 261), none]) (st' := [.ref 0, .int 0, .ref 261]) (pc' := 3) hk (.aload_n 0) 1 rfl rfl rfl rfl ?_
  refine ev_ls (L' := [some (.ref 0), some (.int a1), some (.int a2), some (.ref 261), none]) (st' := [.int a1, .ref 0, .int 0, .ref 261]) (pc' := 4) hk (.iload_n 1) 1 rfl rfl rfl rfl ?_
  refine ev_ls (L' := [some (.ref 0), some (.int a1), some (.int a2), some (.ref 261), none]) (st' := [.int a2, .int a1, .ref 0, .int 0, .ref 261]) (pc' := 5) hk (.iload_n 2) 1 rfl rfl rfl rfl ?_
  rcases bnx_some hx with ⟨v4, hc2, hx⟩ | ⟨E3, hc2, hx⟩
  · skip
    refine ev_cv 331 2 [.int v4, .int 0, .ref 261] 8 hk rfl rfl rfl rfl lk_dh rfl rfl rfl (rX_labelObstacle hc2) rfl rfl rfl rfl ?_
    refine ev_op (st' := [.long (Int32.toInt64 v4), .int 0, .ref 261]) (pc' := 9) hk (.i2l) 1 rfl rfl rfl ?_
    obtain ⟨ou5, hou5, hx⟩ := bnd_some hx
    have hou5 := Option.some.inj hou5
    refine ev_las (A := (vp_updL ou 0 (Int32.toInt64 v4))) rfl 10 hk rfl lk_ou (sa_ou hou5) rfl ?_
    refine ev_jp (pc' := 17) (st' := []) hk (.goto 7) 3 rfl rfl rfl rfl rfl ?_
    refine ev_op (st' := [.int 0]) (pc' := 18) hk (.iconst 0) 1 rfl rfl rfl ?_
    cases hx
    obtain rfl := hM
    exact ev_retI hk rfl rfl
  · skip
    rcases ite_or hx with ⟨hE, hx⟩ | ⟨hE, hx⟩
    · subst hE
      refine ev_cvC 331 2 15 hk rfl rfl rfl rfl lk_dh rfl rfl rfl (t := 13) (by decide +kernel) (L' := [some (.ref 0), some (.int a1), some (.int a2), some (.ref 261), none]) rfl (rX_labelObstacle hc2) rfl rfl ?_
      refine ev_op (st' := [.int 1]) (pc' := 16) hk (.iconst 1) 1 rfl rfl rfl ?_
      cases hx
      obtain rfl := hM
      exact ev_retI hk rfl rfl
    cases hx
set_option maxRecDepth 2000 in
theorem rM_labelObstacle {S : Nat} {xs : Nat → Int32} {I : zI} {C : zC} {Y : Nat → Int32} {Γ : Nat → zG} {D : zD} {O : Nat → Int32} {M : zM} {ou : Nat → Int64} {od : Nat → UInt64} {j : Nat} {a1 : Int32} {a2 : Int32} {X : Int32 × zM}   (hx : fM_labelObstacle M a1 a2 = some X) : Ev S xs 112 0 [some (.ref 247), some (.int a1), some (.int a2)] [] (zH I C Y Γ D O M ou od j) (((.inl (some (.int X.1))), (zH I C Y Γ D O X.2 ou od j)) : (Option Value ⊕ String) × px_H) := by
  generalize hM : (((.inl (some (.int X.1))), (zH I C Y Γ D O X.2 ou od j)) : (Option Value ⊕ String) × px_H) = y
  replace hM := hM.symm
  have hk : pt_mt[112]? = some pt_r112 := rfl
  unfold fM_labelObstacle at hx
  refine ev_ls (L' := [some (.ref 247), some (.int a1), some (.int a2)]) (st' := [.ref 247]) (pc' := 1) hk (.aload_n 0) 1 rfl rfl rfl rfl ?_
  refine ev_ls (L' := [some (.ref 247), some (.int a1), some (.int a2)]) (st' := [.int a1, .ref 247]) (pc' := 2) hk (.iload_n 1) 1 rfl rfl rfl rfl ?_
  refine ev_ls (L' := [some (.ref 247), some (.int a1), some (.int a2)]) (st' := [.int a2, .int a1, .ref 247]) (pc' := 3) hk (.iload_n 2) 1 rfl rfl rfl rfl ?_
  refine ev_cs 93 2 [.int (b2i (fM_isSpotAt a1 a2)), .ref 247] 6 hk rfl rfl (by decide) rfl rfl rfl (rM_isSpotAt rfl) rfl rfl rfl rfl ?_
  obtain ⟨v2, M1, hc3, hx⟩ := bnd2_some hx
  refine ev_cv 59 1 [.int (b2i v2)] 9 hk rfl rfl rfl rfl lk_model rfl rfl rfl (rM_goes hc3) rfl rfl rfl rfl ?_
  refine ev_d1 25 12 hk rfl rfl rfl rfl (px_beq hx (fun hc hx => ?_) (fun hc hx => ?_))
  · refine ev_op (st' := [.int 0]) (pc' := 26) hk (.iconst 0) 1 rfl rfl rfl ?_
    cases hx
    obtain rfl := hM
    exact ev_retI hk rfl rfl
  · refine ev_ls (L' := [some (.ref 247), some (.int a1), some (.int a2)]) (st' := [.ref 247]) (pc' := 13) hk (.aload_n 0) 1 rfl rfl rfl rfl ?_
    refine ev_ls (L' := [some (.ref 247), some (.int a1), some (.int a2)]) (st' := [.ref 247, .ref 247]) (pc' := 14) hk (.aload_n 0) 1 rfl rfl rfl rfl ?_
    obtain ⟨v4, hc5, hx⟩ := bnd_some hx
    refine ev_cv 31 0 [.long v4, .ref 247] 17 hk rfl rfl rfl rfl lk_model rfl rfl rfl (rM_bufferName hc5) rfl rfl rfl rfl ?_
    refine ev_ls (L' := [some (.ref 247), some (.int a1), some (.int a2)]) (st' := [.int a1, .long v4, .ref 247]) (pc' := 18) hk (.iload_n 1) 1 rfl rfl rfl rfl ?_
    refine ev_ls (L' := [some (.ref 247), some (.int a1), some (.int a2)]) (st' := [.int a2, .int a1, .long v4, .ref 247]) (pc' := 19) hk (.iload_n 2) 1 rfl rfl rfl rfl ?_
    obtain ⟨v6, hc7, hx⟩ := bnd_some hx
    refine ev_cv 115 3 [.int v6] 22 hk rfl rfl rfl rfl lk_model rfl rfl rfl (rM_labelWhy hc7) rfl rfl rfl rfl ?_
    refine ev_jp (pc' := 26) (st' := [.int v6]) hk (.goto 4) 3 rfl rfl rfl rfl rfl ?_
    cases hx
    obtain rfl := hM
    exact ev_retI hk rfl rfl
set_option maxRecDepth 2000 in
theorem rX_hemObstacle {S : Nat} {xs : Nat → Int32} {I : zI} {C : zC} {Y : Nat → Int32} {Γ : Nat → zG} {D : zD} {O : Nat → Int32} {M : zM} {ou : Nat → Int64} {od : Nat → UInt64} {j : Nat} {a1 : Int32} {a2 : Int32} {X : (Int32 ⊕ String)}   (hx : fX_hemObstacle Γ a1 a2 = some X) : Ev S xs 317 0 [some (.ref 0), some (.int a1), some (.int a2)] [] (zH I C Y Γ D O M ou od j) (Sum.elim (fun v => ((.inl (some (.int v))), (zH I C Y Γ D O M ou od j))) (fun E => (.inr E, (zH I C Y Γ D O M ou od (j + 1)))) X : (Option Value ⊕ String) × px_H) := by
  generalize hM : (Sum.elim (fun v => ((.inl (some (.int v))), (zH I C Y Γ D O M ou od j))) (fun E => (.inr E, (zH I C Y Γ D O M ou od (j + 1)))) X : (Option Value ⊕ String) × px_H) = y
  replace hM := hM.symm
  have hk : pt_mt[317]? = some pt_r317 := rfl
  unfold fX_hemObstacle at hx
  refine ev_ls (L' := [some (.ref 0), some (.int a1), some (.int a2)]) (st' := [.int a1]) (pc' := 1) hk (.iload_n 1) 1 rfl rfl rfl rfl ?_
  refine ev_ls (L' := [some (.ref 0), some (.int a1), some (.int a2)]) (st' := [.int a2, .int a1]) (pc' := 2) hk (.iload_n 2) 1 rfl rfl rfl rfl ?_
  rcases bnx_some hx with ⟨⟨⟩, hc1, hx⟩ | ⟨E2, hc1, hx⟩
  · skip
    refine ev_cs 343 2 [] 5 hk rfl rfl (by decide) rfl rfl rfl (rX_needPlace hc1) rfl rfl rfl rfl ?_
    refine ev_ls (L' := [some (.ref 0), some (.int a1), some (.int a2)]) (st' := [.ref 0]) (pc' := 6) hk (.aload_n 0) 1 rfl rfl rfl rfl ?_
    refine ev_gf (.ref 10) 9 hk rfl rfl lk_dh rfl rfl ?_
    refine ev_ls (L' := [some (.ref 0), some (.int a1), some (.int a2)]) (st' := [.int a1, .ref 10]) (pc' := 10) hk (.iload_n 1) 1 rfl rfl rfl rfl ?_
    refine ev_ls (L' := [some (.ref 0), some (.int a1), some (.int a2)]) (st' := [.int a2, .int a1, .ref 10]) (pc' := 11) hk (.iload_n 2) 1 rfl rfl rfl rfl ?_
    obtain ⟨v4, hc5, hx⟩ := bnd_some hx
    refine ev_cv 225 2 [.int v4] 14 hk rfl rfl rfl rfl (lk_globe isG_10 rfl) rfl rfl rfl (ev_gs2 (rG_hemHindrance isG_10 hc5)) rfl rfl rfl rfl ?_
    cases hx
    obtain rfl := hM
    exact ev_retI hk rfl rfl
  · skip
    cases hx
    obtain rfl := hM
    exact ev_csX 343 2 hk rfl rfl (by decide) rfl rfl rfl rfl (rX_needPlace hc1) rfl rfl
set_option maxRecDepth 2000 in
theorem rw_hemObstacle {S : Nat} {xs : Nat → Int32} {I : zI} {C : zC} {Y : Nat → Int32} {Γ : Nat → zG} {D : zD} {O : Nat → Int32} {M : zM} {ou : Nat → Int64} {od : Nat → UInt64} {j : Nat} {a1 : Int32} {a2 : Int32} {X : Int32 × (Nat → Int64) × Nat}   (hx : fw_hemObstacle Γ ou j a1 a2 = some X) : Ev S xs 380 0 [some (.ref 0), some (.int a1), some (.int a2), some (.ref 261), none] [] (zH I C Y Γ D O M ou od j) (((.inl (some (.int X.1))), (zH I C Y Γ D O M X.2.1 od X.2.2)) : (Option Value ⊕ String) × px_H) := by
  generalize hM : (((.inl (some (.int X.1))), (zH I C Y Γ D O M X.2.1 od X.2.2)) : (Option Value ⊕ String) × px_H) = y
  replace hM := hM.symm
  have hk : pt_mt[380]? = some pt_r380 := rfl
  unfold fw_hemObstacle at hx
  refine ev_ls (L' := [some (.ref 0), some (.int a1), some (.int a2), some (.ref 261), none]) (st' := [.ref 261]) (pc' := 1) hk (.aload_n 3) 1 rfl rfl rfl rfl ?_
  refine ev_op (st' := [.int 0, .ref 261]) (pc' := 2) hk (.iconst 0) 1 rfl rfl rfl ?_
  refine ev_ls (L' := [some (.ref 0), some (.int a1), some (.int a2), some (.ref 261), none]) (st' := [.ref 0, .int 0, .ref 261]) (pc' := 3) hk (.aload_n 0) 1 rfl rfl rfl rfl ?_
  refine ev_ls (L' := [some (.ref 0), some (.int a1), some (.int a2), some (.ref 261), none]) (st' := [.int a1, .ref 0, .int 0, .ref 261]) (pc' := 4) hk (.iload_n 1) 1 rfl rfl rfl rfl ?_
  refine ev_ls (L' := [some (.ref 0), some (.int a1), some (.int a2), some (.ref 261), none]) (st' := [.int a2, .int a1, .ref 0, .int 0, .ref 261]) (pc' := 5) hk (.iload_n 2) 1 rfl rfl rfl rfl ?_
  rcases bnx_some hx with ⟨v4, hc2, hx⟩ | ⟨E3, hc2, hx⟩
  · skip
    refine ev_cv 317 2 [.int v4, .int 0, .ref 261] 8 hk rfl rfl rfl rfl lk_dh rfl rfl rfl (rX_hemObstacle hc2) rfl rfl rfl rfl ?_
    refine ev_op (st' := [.long (Int32.toInt64 v4), .int 0, .ref 261]) (pc' := 9) hk (.i2l) 1 rfl rfl rfl ?_
    obtain ⟨ou5, hou5, hx⟩ := bnd_some hx
    have hou5 := Option.some.inj hou5
    refine ev_las (A := (vp_updL ou 0 (Int32.toInt64 v4))) rfl 10 hk rfl lk_ou (sa_ou hou5) rfl ?_
    refine ev_jp (pc' := 17) (st' := []) hk (.goto 7) 3 rfl rfl rfl rfl rfl ?_
    refine ev_op (st' := [.int 0]) (pc' := 18) hk (.iconst 0) 1 rfl rfl rfl ?_
    cases hx
    obtain rfl := hM
    exact ev_retI hk rfl rfl
  · skip
    rcases ite_or hx with ⟨hE, hx⟩ | ⟨hE, hx⟩
    · subst hE
      refine ev_cvC 317 2 15 hk rfl rfl rfl rfl lk_dh rfl rfl rfl (t := 13) (by decide +kernel) (L' := [some (.ref 0), some (.int a1), some (.int a2), some (.ref 261), none]) rfl (rX_hemObstacle hc2) rfl rfl ?_
      refine ev_op (st' := [.int 1]) (pc' := 16) hk (.iconst 1) 1 rfl rfl rfl ?_
      cases hx
      obtain rfl := hM
      exact ev_retI hk rfl rfl
    cases hx
set_option maxRecDepth 2000 in
theorem rM_hemObstacle {S : Nat} {xs : Nat → Int32} {I : zI} {C : zC} {Y : Nat → Int32} {Γ : Nat → zG} {D : zD} {O : Nat → Int32} {M : zM} {ou : Nat → Int64} {od : Nat → UInt64} {j : Nat} {a1 : Int32} {a2 : Int32} {X : Int32 × zM}   (hx : fM_hemObstacle M a1 a2 = some X) : Ev S xs 69 0 [some (.ref 247), some (.int a1), some (.int a2)] [] (zH I C Y Γ D O M ou od j) (((.inl (some (.int X.1))), (zH I C Y Γ D O X.2 ou od j)) : (Option Value ⊕ String) × px_H) := by
  generalize hM : (((.inl (some (.int X.1))), (zH I C Y Γ D O X.2 ou od j)) : (Option Value ⊕ String) × px_H) = y
  replace hM := hM.symm
  have hk : pt_mt[69]? = some pt_r69 := rfl
  unfold fM_hemObstacle at hx
  refine ev_ls (L' := [some (.ref 247), some (.int a1), some (.int a2)]) (st' := [.ref 247]) (pc' := 1) hk (.aload_n 0) 1 rfl rfl rfl rfl ?_
  refine ev_ls (L' := [some (.ref 247), some (.int a1), some (.int a2)]) (st' := [.int a1, .ref 247]) (pc' := 2) hk (.iload_n 1) 1 rfl rfl rfl rfl ?_
  refine ev_ls (L' := [some (.ref 247), some (.int a1), some (.int a2)]) (st' := [.int a2, .int a1, .ref 247]) (pc' := 3) hk (.iload_n 2) 1 rfl rfl rfl rfl ?_
  refine ev_cs 93 2 [.int (b2i (fM_isSpotAt a1 a2)), .ref 247] 6 hk rfl rfl (by decide) rfl rfl rfl (rM_isSpotAt rfl) rfl rfl rfl rfl ?_
  obtain ⟨v2, M1, hc3, hx⟩ := bnd2_some hx
  refine ev_cv 59 1 [.int (b2i v2)] 9 hk rfl rfl rfl rfl lk_model rfl rfl rfl (rM_goes hc3) rfl rfl rfl rfl ?_
  refine ev_d1 21 12 hk rfl rfl rfl rfl (px_beq hx (fun hc hx => ?_) (fun hc hx => ?_))
  · refine ev_op (st' := [.int 0]) (pc' := 22) hk (.iconst 0) 1 rfl rfl rfl ?_
    cases hx
    obtain rfl := hM
    exact ev_retI hk rfl rfl
  · refine ev_ls (L' := [some (.ref 247), some (.int a1), some (.int a2)]) (st' := [.ref 247]) (pc' := 13) hk (.aload_n 0) 1 rfl rfl rfl rfl ?_
    refine ev_ls (L' := [some (.ref 247), some (.int a1), some (.int a2)]) (st' := [.int a1, .ref 247]) (pc' := 14) hk (.iload_n 1) 1 rfl rfl rfl rfl ?_
    refine ev_ls (L' := [some (.ref 247), some (.int a1), some (.int a2)]) (st' := [.int a2, .int a1, .ref 247]) (pc' := 15) hk (.iload_n 2) 1 rfl rfl rfl rfl ?_
    obtain ⟨v4, hc5, hx⟩ := bnd_some hx
    refine ev_cv 70 2 [.int v4] 18 hk rfl rfl rfl rfl lk_model rfl rfl rfl (rM_hemWhy hc5) rfl rfl rfl rfl ?_
    refine ev_jp (pc' := 22) (st' := [.int v4]) hk (.goto 4) 3 rfl rfl rfl rfl rfl ?_
    cases hx
    obtain rfl := hM
    exact ev_retI hk rfl rfl
set_option maxRecDepth 2000 in
theorem rX_labelAt {S : Nat} {xs : Nat → Int32} {I : zI} {C : zC} {Y : Nat → Int32} {Γ : Nat → zG} {D : zD} {O : Nat → Int32} {M : zM} {ou : Nat → Int64} {od : Nat → UInt64} {j : Nat} {a1 : Int32} {a2 : Int32} {X : (Int32 ⊕ String)}   (hx : fX_labelAt Γ a1 a2 = some X) : Ev S xs 326 0 [some (.ref 0), some (.int a1), some (.int a2)] [] (zH I C Y Γ D O M ou od j) (Sum.elim (fun v => ((.inl (some (.int v))), (zH I C Y Γ D O M ou od j))) (fun E => (.inr E, (zH I C Y Γ D O M ou od (j + 1)))) X : (Option Value ⊕ String) × px_H) := by
  generalize hM : (Sum.elim (fun v => ((.inl (some (.int v))), (zH I C Y Γ D O M ou od j))) (fun E => (.inr E, (zH I C Y Γ D O M ou od (j + 1)))) X : (Option Value ⊕ String) × px_H) = y
  replace hM := hM.symm
  have hk : pt_mt[326]? = some pt_r326 := rfl
  unfold fX_labelAt at hx
  refine ev_ls (L' := [some (.ref 0), some (.int a1), some (.int a2)]) (st' := [.int a1]) (pc' := 1) hk (.iload_n 1) 1 rfl rfl rfl rfl ?_
  refine ev_ls (L' := [some (.ref 0), some (.int a1), some (.int a2)]) (st' := [.int a2, .int a1]) (pc' := 2) hk (.iload_n 2) 1 rfl rfl rfl rfl ?_
  rcases bnx_some hx with ⟨⟨⟩, hc1, hx⟩ | ⟨E2, hc1, hx⟩
  · skip
    refine ev_cs 343 2 [] 5 hk rfl rfl (by decide) rfl rfl rfl (rX_needPlace hc1) rfl rfl rfl rfl ?_
    refine ev_ls (L' := [some (.ref 0), some (.int a1), some (.int a2)]) (st' := [.ref 0]) (pc' := 6) hk (.aload_n 0) 1 rfl rfl rfl rfl ?_
    refine ev_gf (.ref 10) 9 hk rfl rfl lk_dh rfl rfl ?_
    refine ev_ls (L' := [some (.ref 0), some (.int a1), some (.int a2)]) (st' := [.int a1, .ref 10]) (pc' := 10) hk (.iload_n 1) 1 rfl rfl rfl rfl ?_
    refine ev_ls (L' := [some (.ref 0), some (.int a1), some (.int a2)]) (st' := [.int a2, .int a1, .ref 10]) (pc' := 11) hk (.iload_n 2) 1 rfl rfl rfl rfl ?_
    refine ev_ls (L' := [some (.ref 0), some (.int a1), some (.int a2)]) (st' := [.int a2, .int a2, .int a1, .ref 10]) (pc' := 12) hk (.iload_n 2) 1 rfl rfl rfl rfl ?_
    obtain ⟨v4, hc5, hx⟩ := bnd_some hx
    refine ev_cv 232 3 [.int v4] 15 hk rfl rfl rfl rfl (lk_globe isG_10 rfl) rfl rfl rfl (ev_gs2 (rG_labelMeeting isG_10 hc5)) rfl rfl rfl rfl ?_
    cases hx
    obtain rfl := hM
    exact ev_retI hk rfl rfl
  · skip
    cases hx
    obtain rfl := hM
    exact ev_csX 343 2 hk rfl rfl (by decide) rfl rfl rfl rfl (rX_needPlace hc1) rfl rfl
set_option maxRecDepth 2000 in
theorem rw_labelAt {S : Nat} {xs : Nat → Int32} {I : zI} {C : zC} {Y : Nat → Int32} {Γ : Nat → zG} {D : zD} {O : Nat → Int32} {M : zM} {ou : Nat → Int64} {od : Nat → UInt64} {j : Nat} {a1 : Int32} {a2 : Int32} {X : Int32 × (Nat → Int64) × Nat}   (hx : fw_labelAt Γ ou j a1 a2 = some X) : Ev S xs 385 0 [some (.ref 0), some (.int a1), some (.int a2), some (.ref 261), none] [] (zH I C Y Γ D O M ou od j) (((.inl (some (.int X.1))), (zH I C Y Γ D O M X.2.1 od X.2.2)) : (Option Value ⊕ String) × px_H) := by
  generalize hM : (((.inl (some (.int X.1))), (zH I C Y Γ D O M X.2.1 od X.2.2)) : (Option Value ⊕ String) × px_H) = y
  replace hM := hM.symm
  have hk : pt_mt[385]? = some pt_r385 := rfl
  unfold fw_labelAt at hx
  refine ev_ls (L' := [some (.ref 0), some (.int a1), some (.int a2), some (.ref 261), none]) (st' := [.ref 261]) (pc' := 1) hk (.aload_n 3) 1 rfl rfl rfl rfl ?_
  refine ev_op (st' := [.int 0, .ref 261]) (pc' := 2) hk (.iconst 0) 1 rfl rfl rfl ?_
  refine ev_ls (L' := [some (.ref 0), some (.int a1), some (.int a2), some (.ref 261), none]) (st' := [.ref 0, .int 0, .ref 261]) (pc' := 3) hk (.aload_n 0) 1 rfl rfl rfl rfl ?_
  refine ev_ls (L' := [some (.ref 0), some (.int a1), some (.int a2), some (.ref 261), none]) (st' := [.int a1, .ref 0, .int 0, .ref 261]) (pc' := 4) hk (.iload_n 1) 1 rfl rfl rfl rfl ?_
  refine ev_ls (L' := [some (.ref 0), some (.int a1), some (.int a2), some (.ref 261), none]) (st' := [.int a2, .int a1, .ref 0, .int 0, .ref 261]) (pc' := 5) hk (.iload_n 2) 1 rfl rfl rfl rfl ?_
  rcases bnx_some hx with ⟨v4, hc2, hx⟩ | ⟨E3, hc2, hx⟩
  · skip
    refine ev_cv 326 2 [.int v4, .int 0, .ref 261] 8 hk rfl rfl rfl rfl lk_dh rfl rfl rfl (rX_labelAt hc2) rfl rfl rfl rfl ?_
    refine ev_op (st' := [.long (Int32.toInt64 v4), .int 0, .ref 261]) (pc' := 9) hk (.i2l) 1 rfl rfl rfl ?_
    obtain ⟨ou5, hou5, hx⟩ := bnd_some hx
    have hou5 := Option.some.inj hou5
    refine ev_las (A := (vp_updL ou 0 (Int32.toInt64 v4))) rfl 10 hk rfl lk_ou (sa_ou hou5) rfl ?_
    refine ev_jp (pc' := 17) (st' := []) hk (.goto 7) 3 rfl rfl rfl rfl rfl ?_
    refine ev_op (st' := [.int 0]) (pc' := 18) hk (.iconst 0) 1 rfl rfl rfl ?_
    cases hx
    obtain rfl := hM
    exact ev_retI hk rfl rfl
  · skip
    rcases ite_or hx with ⟨hE, hx⟩ | ⟨hE, hx⟩
    · subst hE
      refine ev_cvC 326 2 15 hk rfl rfl rfl rfl lk_dh rfl rfl rfl (t := 13) (by decide +kernel) (L' := [some (.ref 0), some (.int a1), some (.int a2), some (.ref 261), none]) rfl (rX_labelAt hc2) rfl rfl ?_
      refine ev_op (st' := [.int 1]) (pc' := 16) hk (.iconst 1) 1 rfl rfl rfl ?_
      cases hx
      obtain rfl := hM
      exact ev_retI hk rfl rfl
    cases hx
set_option maxRecDepth 2000 in
theorem rM_labelAt {S : Nat} {xs : Nat → Int32} {I : zI} {C : zC} {Y : Nat → Int32} {Γ : Nat → zG} {D : zD} {O : Nat → Int32} {M : zM} {ou : Nat → Int64} {od : Nat → UInt64} {j : Nat} {a1 : Int32} {a2 : Int32} {X : Int32 × zM}   (hx : fM_labelAt M a1 a2 = some X) : Ev S xs 106 0 [some (.ref 247), some (.int a1), some (.int a2)] [] (zH I C Y Γ D O M ou od j) (((.inl (some (.int X.1))), (zH I C Y Γ D O X.2 ou od j)) : (Option Value ⊕ String) × px_H) := by
  generalize hM : (((.inl (some (.int X.1))), (zH I C Y Γ D O X.2 ou od j)) : (Option Value ⊕ String) × px_H) = y
  replace hM := hM.symm
  have hk : pt_mt[106]? = some pt_r106 := rfl
  unfold fM_labelAt at hx
  refine ev_ls (L' := [some (.ref 247), some (.int a1), some (.int a2)]) (st' := [.ref 247]) (pc' := 1) hk (.aload_n 0) 1 rfl rfl rfl rfl ?_
  refine ev_ls (L' := [some (.ref 247), some (.int a1), some (.int a2)]) (st' := [.int a1, .ref 247]) (pc' := 2) hk (.iload_n 1) 1 rfl rfl rfl rfl ?_
  refine ev_ls (L' := [some (.ref 247), some (.int a1), some (.int a2)]) (st' := [.int a2, .int a1, .ref 247]) (pc' := 3) hk (.iload_n 2) 1 rfl rfl rfl rfl ?_
  refine ev_cs 93 2 [.int (b2i (fM_isSpotAt a1 a2)), .ref 247] 6 hk rfl rfl (by decide) rfl rfl rfl (rM_isSpotAt rfl) rfl rfl rfl rfl ?_
  obtain ⟨v2, M1, hc3, hx⟩ := bnd2_some hx
  refine ev_cv 59 1 [.int (b2i v2)] 9 hk rfl rfl rfl rfl lk_model rfl rfl rfl (rM_goes hc3) rfl rfl rfl rfl ?_
  refine ev_d1 21 12 hk rfl rfl rfl rfl (px_beq hx (fun hc hx => ?_) (fun hc hx => ?_))
  · refine ev_op (st' := [.int 0]) (pc' := 22) hk (.iconst 0) 1 rfl rfl rfl ?_
    cases hx
    obtain rfl := hM
    exact ev_retI hk rfl rfl
  · refine ev_ls (L' := [some (.ref 247), some (.int a1), some (.int a2)]) (st' := [.ref 247]) (pc' := 13) hk (.aload_n 0) 1 rfl rfl rfl rfl ?_
    refine ev_ls (L' := [some (.ref 247), some (.int a1), some (.int a2)]) (st' := [.int a1, .ref 247]) (pc' := 14) hk (.iload_n 1) 1 rfl rfl rfl rfl ?_
    refine ev_ls (L' := [some (.ref 247), some (.int a1), some (.int a2)]) (st' := [.int a2, .int a1, .ref 247]) (pc' := 15) hk (.iload_n 2) 1 rfl rfl rfl rfl ?_
    obtain ⟨v4, hc5, hx⟩ := bnd_some hx
    refine ev_cv 113 2 [.int v4] 18 hk rfl rfl rfl rfl lk_model rfl rfl rfl (rM_labelOn hc5) rfl rfl rfl rfl ?_
    refine ev_jp (pc' := 22) (st' := [.int v4]) hk (.goto 4) 3 rfl rfl rfl rfl rfl ?_
    cases hx
    obtain rfl := hM
    exact ev_retI hk rfl rfl
set_option maxRecDepth 4000 in
theorem rX_needLabel_j15 {S : Nat} {xs : Nat → Int32} {I : zI} {C : zC} {Y : Nat → Int32} {Γ : Nat → zG} {D : zD} {O : Nat → Int32} {M : zM} {ou : Nat → Int64} {od : Nat → UInt64} {j : Nat}  {y : (Option Value ⊕ String) × px_H} {x : (Unit ⊕ String)}  (hx : fX_needLabel_j15 Γ = some x) (hM : (fun X : (Unit ⊕ String) => y = (Sum.elim (fun v => ((.inl none), (zH I C Y Γ D O M ou od j))) (fun E => (.inr E, (zH I C Y Γ D O M ou od (j + 1)))) X : (Option Value ⊕ String) × px_H)) x) (u0 : Option Value) (hu0 : px_cz u0 = true) (u1 : Option Value) (hu1 : px_cz u1 = true) : Ev S xs 342 15 [u0, u1] [] (zH I C Y Γ D O M ou od j) y := by
  have hk : pt_mt[342]? = some pt_r342 := rfl
  unfold fX_needLabel_j15 at hx
  cases hx
  obtain rfl := hM
  exact ev_tw hk rfl (by rfl) rfl zH_j
set_option maxRecDepth 2000 in
theorem rX_needLabel {S : Nat} {xs : Nat → Int32} {I : zI} {C : zC} {Y : Nat → Int32} {Γ : Nat → zG} {D : zD} {O : Nat → Int32} {M : zM} {ou : Nat → Int64} {od : Nat → UInt64} {j : Nat} {a1 : Int32} {X : (Unit ⊕ String)}   (hx : fX_needLabel Γ a1 = some X) : Ev S xs 342 0 [some (.ref 0), some (.int a1)] [] (zH I C Y Γ D O M ou od j) (Sum.elim (fun v => ((.inl none), (zH I C Y Γ D O M ou od j))) (fun E => (.inr E, (zH I C Y Γ D O M ou od (j + 1)))) X : (Option Value ⊕ String) × px_H) := by
  generalize hM : (Sum.elim (fun v => ((.inl none), (zH I C Y Γ D O M ou od j))) (fun E => (.inr E, (zH I C Y Γ D O M ou od (j + 1)))) X : (Option Value ⊕ String) × px_H) = y
  replace hM := hM.symm
  have hk : pt_mt[342]? = some pt_r342 := rfl
  unfold fX_needLabel at hx
  refine ev_ls (L' := [some (.ref 0), some (.int a1)]) (st' := [.int a1]) (pc' := 1) hk (.iload_n 1) 1 rfl rfl rfl rfl ?_
  refine ev_d1 15 4 hk rfl rfl rfl rfl (px_clt hx (fun hc hx => ?_) (fun hc hx => ?_))
  · exact rX_needLabel_j15 hx hM (some (.ref 0)) rfl (some (.int a1)) rfl
  · refine ev_ls (L' := [some (.ref 0), some (.int a1)]) (st' := [.int a1]) (pc' := 5) hk (.iload_n 1) 1 rfl rfl rfl rfl ?_
    refine ev_ls (L' := [some (.ref 0), some (.int a1)]) (st' := [.ref 0, .int a1]) (pc' := 6) hk (.aload_n 0) 1 rfl rfl rfl rfl ?_
    refine ev_gf (.ref 10) 9 hk rfl rfl lk_dh rfl rfl ?_
    refine ev_gf (.int (gF (Γ 10) 0 6)) 12 hk rfl rfl (lk_globe isG_10 rfl) rfl rfl ?_
    refine ev_d2 26 15 hk rfl rfl rfl rfl (px_clt hx (fun hc hx => ?_) (fun hc hx => ?_))
    · cases hx
      obtain rfl := hM
      exact ev_retv hk rfl rfl
    · exact rX_needLabel_j15 hx hM (some (.ref 0)) rfl (some (.int a1)) rfl
set_option maxRecDepth 2000 in
theorem rX_isLabelTorn {S : Nat} {xs : Nat → Int32} {I : zI} {C : zC} {Y : Nat → Int32} {Γ : Nat → zG} {D : zD} {O : Nat → Int32} {M : zM} {ou : Nat → Int64} {od : Nat → UInt64} {j : Nat} {a1 : Int32} {X : (Bool ⊕ String)}   (hx : fX_isLabelTorn Γ a1 = some X) : Ev S xs 323 0 [some (.ref 0), some (.int a1)] [] (zH I C Y Γ D O M ou od j) (Sum.elim (fun v => ((.inl (some (.int (b2i v)))), (zH I C Y Γ D O M ou od j))) (fun E => (.inr E, (zH I C Y Γ D O M ou od (j + 1)))) X : (Option Value ⊕ String) × px_H) := by
  generalize hM : (Sum.elim (fun v => ((.inl (some (.int (b2i v)))), (zH I C Y Γ D O M ou od j))) (fun E => (.inr E, (zH I C Y Γ D O M ou od (j + 1)))) X : (Option Value ⊕ String) × px_H) = y
  replace hM := hM.symm
  have hk : pt_mt[323]? = some pt_r323 := rfl
  unfold fX_isLabelTorn at hx
  refine ev_ls (L' := [some (.ref 0), some (.int a1)]) (st' := [.ref 0]) (pc' := 1) hk (.aload_n 0) 1 rfl rfl rfl rfl ?_
  refine ev_ls (L' := [some (.ref 0), some (.int a1)]) (st' := [.int a1, .ref 0]) (pc' := 2) hk (.iload_n 1) 1 rfl rfl rfl rfl ?_
  rcases bnx_some hx with ⟨⟨⟩, hc2, hx⟩ | ⟨E3, hc2, hx⟩
  · skip
    refine ev_cv 342 1 [] 5 hk rfl rfl rfl rfl lk_dh rfl rfl rfl (rX_needLabel hc2) rfl rfl rfl rfl ?_
    refine ev_ls (L' := [some (.ref 0), some (.int a1)]) (st' := [.ref 0]) (pc' := 6) hk (.aload_n 0) 1 rfl rfl rfl rfl ?_
    refine ev_gf (.ref 10) 9 hk rfl rfl lk_dh rfl rfl ?_
    refine ev_gf (.ref (10 + 17)) 12 hk rfl rfl (lk_globe isG_10 rfl) rfl rfl ?_
    refine ev_ls (L' := [some (.ref 0), some (.int a1)]) (st' := [.int a1, .ref (10 + 17)]) (pc' := 13) hk (.iload_n 1) 1 rfl rfl rfl rfl ?_
    obtain ⟨p5, hp5, hx⟩ := bnd_some hx
    have hpp5 := rix_lt hp5
    refine ev_aal (10 + (18 + p5)) hp5 14 hk rfl (lk_labels isG_10 rfl) (by decide) (lk_la hpp5) rfl ?_
    refine ev_gf (.int (b2i (gB (Γ 10) (18 + p5)))) 17 hk rfl rfl (lk_label isG_10 hpp5 rfl) rfl rfl ?_
    cases hx
    obtain rfl := hM
    exact ev_retZ _ rfl hk rfl rfl
  · skip
    cases hx
    obtain rfl := hM
    exact ev_cvX 342 1 hk rfl rfl rfl rfl lk_dh rfl rfl rfl rfl (rX_needLabel hc2) rfl rfl
set_option maxRecDepth 4000 in
theorem rw_isLabelTorn_j15 {S : Nat} {xs : Nat → Int32} {I : zI} {C : zC} {Y : Nat → Int32} {Γ : Nat → zG} {D : zD} {O : Nat → Int32} {M : zM} {ou : Nat → Int64} {od : Nat → UInt64} {j : Nat} {a0t : Int64} {y : (Option Value ⊕ String) × px_H} {x : Int32 × (Nat → Int64) × Nat}  (hx : fw_isLabelTorn_j15 Γ ou j a0t = some x) (hM : (fun X : Int32 × (Nat → Int64) × Nat => y = (((.inl (some (.int X.1))), (zH I C Y Γ D O M X.2.1 od X.2.2)) : (Option Value ⊕ String) × px_H)) x) (u0 : Option Value) (hu0 : px_cz u0 = true) (u1 : Option Value) (hu1 : px_cz u1 = true) (u2 : Option Value) (hu2 : px_cz u2 = true) : Ev S xs 383 15 [u0, u1, u2, none] [.long a0t, .int 0, .ref 261] (zH I C Y Γ D O M ou od j) y := by
  have hk : pt_mt[383]? = some pt_r383 := rfl
  unfold fw_isLabelTorn_j15 at hx
  obtain ⟨ou3, hou3, hx⟩ := bnd_some hx
  have hou3 := Option.some.inj hou3
  refine ev_las (A := (vp_updL ou 0 a0t)) rfl 16 hk rfl lk_ou (sa_ou hou3) rfl ?_
  refine ev_jp (pc' := 22) (st' := []) hk (.goto 6) 3 rfl rfl rfl rfl rfl ?_
  refine ev_op (st' := [.int 0]) (pc' := 23) hk (.iconst 0) 1 rfl rfl rfl ?_
  cases hx
  obtain rfl := hM
  exact ev_retI hk rfl rfl
set_option maxRecDepth 2000 in
theorem rw_isLabelTorn {S : Nat} {xs : Nat → Int32} {I : zI} {C : zC} {Y : Nat → Int32} {Γ : Nat → zG} {D : zD} {O : Nat → Int32} {M : zM} {ou : Nat → Int64} {od : Nat → UInt64} {j : Nat} {a1 : Int32} {X : Int32 × (Nat → Int64) × Nat}   (hx : fw_isLabelTorn Γ ou j a1 = some X) : Ev S xs 383 0 [some (.ref 0), some (.int a1), some (.ref 261), none] [] (zH I C Y Γ D O M ou od j) (((.inl (some (.int X.1))), (zH I C Y Γ D O M X.2.1 od X.2.2)) : (Option Value ⊕ String) × px_H) := by
  generalize hM : (((.inl (some (.int X.1))), (zH I C Y Γ D O M X.2.1 od X.2.2)) : (Option Value ⊕ String) × px_H) = y
  replace hM := hM.symm
  have hk : pt_mt[383]? = some pt_r383 := rfl
  unfold fw_isLabelTorn at hx
  refine ev_ls (L' := [some (.ref 0), some (.int a1), some (.ref 261), none]) (st' := [.ref 261]) (pc' := 1) hk (.aload_n 2) 1 rfl rfl rfl rfl ?_
  refine ev_op (st' := [.int 0, .ref 261]) (pc' := 2) hk (.iconst 0) 1 rfl rfl rfl ?_
  refine ev_ls (L' := [some (.ref 0), some (.int a1), some (.ref 261), none]) (st' := [.ref 0, .int 0, .ref 261]) (pc' := 3) hk (.aload_n 0) 1 rfl rfl rfl rfl ?_
  refine ev_ls (L' := [some (.ref 0), some (.int a1), some (.ref 261), none]) (st' := [.int a1, .ref 0, .int 0, .ref 261]) (pc' := 4) hk (.iload_n 1) 1 rfl rfl rfl rfl ?_
  rcases bnx_some hx with ⟨v6, hc4, hx⟩ | ⟨E5, hc4, hx⟩
  · skip
    refine ev_cv 323 1 [.int (b2i v6), .int 0, .ref 261] 7 hk rfl rfl rfl rfl lk_dh rfl rfl rfl (rX_isLabelTorn hc4) rfl rfl rfl rfl ?_
    refine ev_d1 14 10 hk rfl rfl rfl rfl (px_beq hx (fun hc hx => ?_) (fun hc hx => ?_))
    · refine ev_op (st' := [.long 0, .int 0, .ref 261]) (pc' := 15) hk (.lconst 0) 1 rfl rfl rfl ?_
      exact rw_isLabelTorn_j15 hx hM (some (.ref 0)) rfl (some (.int a1)) rfl (some (.ref 261)) rfl
    · refine ev_op (st' := [.long 1, .int 0, .ref 261]) (pc' := 11) hk (.lconst 1) 1 rfl rfl rfl ?_
      refine ev_jp (pc' := 15) (st' := [.long 1, .int 0, .ref 261]) hk (.goto 4) 3 rfl rfl rfl rfl rfl ?_
      exact rw_isLabelTorn_j15 hx hM (some (.ref 0)) rfl (some (.int a1)) rfl (some (.ref 261)) rfl
  · skip
    rcases ite_or hx with ⟨hE, hx⟩ | ⟨hE, hx⟩
    · subst hE
      refine ev_cvC 323 1 20 hk rfl rfl rfl rfl lk_dh rfl rfl rfl (t := 19) (by decide +kernel) (L' := [some (.ref 0), some (.int a1), some (.ref 261), none]) rfl (rX_isLabelTorn hc4) rfl rfl ?_
      refine ev_op (st' := [.int 1]) (pc' := 21) hk (.iconst 1) 1 rfl rfl rfl ?_
      cases hx
      obtain rfl := hM
      exact ev_retI hk rfl rfl
    cases hx
set_option maxRecDepth 2000 in
theorem rM_isLabel {S : Nat} {xs : Nat → Int32} {I : zI} {C : zC} {Y : Nat → Int32} {Γ : Nat → zG} {D : zD} {O : Nat → Int32} {M : zM} {ou : Nat → Int64} {od : Nat → UInt64} {j : Nat} {a1 : Int32} {X : Bool}   (hx : fM_isLabel M a1 = X) : Ev S xs 87 0 [some (.ref 247), some (.int a1)] [] (zH I C Y Γ D O M ou od j) (((.inl (some (.int (b2i X)))), (zH I C Y Γ D O M ou od j)) : (Option Value ⊕ String) × px_H) := by
  generalize hM : (((.inl (some (.int (b2i X)))), (zH I C Y Γ D O M ou od j)) : (Option Value ⊕ String) × px_H) = y
  replace hM := hM.symm
  have hk : pt_mt[87]? = some pt_r87 := rfl
  unfold fM_isLabel at hx
  refine ev_ls (L' := [some (.ref 247), some (.int a1)]) (st' := [.int a1]) (pc' := 1) hk (.iload_n 1) 1 rfl rfl rfl rfl ?_
  refine ev_op (st' := [.long (Int32.toInt64 a1)]) (pc' := 2) hk (.i2l) 1 rfl rfl rfl ?_
  refine ev_op (st' := [.long 0, .long (Int32.toInt64 a1)]) (pc' := 3) hk (.lconst 0) 1 rfl rfl rfl ?_
  refine ev_ls (L' := [some (.ref 247), some (.int a1)]) (st' := [.ref 247, .long 0, .long (Int32.toInt64 a1)]) (pc' := 4) hk (.aload_n 0) 1 rfl rfl rfl rfl ?_
  refine ev_gf (.ref 249) 7 hk rfl rfl lk_model rfl rfl ?_
  refine ev_op (st' := [.int 2, .ref 249, .long 0, .long (Int32.toInt64 a1)]) (pc' := 8) hk (.iconst 2) 1 rfl rfl rfl ?_
  refine ev_ial (v := ((mA M 249) 2)) rfl 9 hk rfl lk_m249 rfl ?_
  refine ev_op (st' := [.int 1, .int ((mA M 249) 2), .long 0, .long (Int32.toInt64 a1)]) (pc' := 10) hk (.iconst 1) 1 rfl rfl rfl ?_
  refine ev_op (st' := [.int (((mA M 249) 2) - 1), .long 0, .long (Int32.toInt64 a1)]) (pc' := 11) hk (.isub) 1 rfl rfl rfl ?_
  refine ev_op (st' := [.long (Int32.toInt64 (((mA M 249) 2) - 1)), .long 0, .long (Int32.toInt64 a1)]) (pc' := 12) hk (.i2l) 1 rfl rfl rfl ?_
  refine ev_cs 86 3 [.int (b2i (fM_isIn (Int32.toInt64 a1) 0 (Int32.toInt64 (((mA M 249) 2) - 1))))] 15 hk rfl rfl (by decide) rfl rfl rfl (rM_isIn rfl) rfl rfl rfl rfl ?_
  cases hx
  obtain rfl := hM
  exact ev_retZ _ rfl hk rfl rfl
set_option maxRecDepth 2000 in
theorem rM_isLabelTorn {S : Nat} {xs : Nat → Int32} {I : zI} {C : zC} {Y : Nat → Int32} {Γ : Nat → zG} {D : zD} {O : Nat → Int32} {M : zM} {ou : Nat → Int64} {od : Nat → UInt64} {j : Nat} {a1 : Int32} {X : Bool × zM}   (hx : fM_isLabelTorn M a1 = some X) : Ev S xs 88 0 [some (.ref 247), some (.int a1)] [] (zH I C Y Γ D O M ou od j) (((.inl (some (.int (b2i X.1)))), (zH I C Y Γ D O X.2 ou od j)) : (Option Value ⊕ String) × px_H) := by
  generalize hM : (((.inl (some (.int (b2i X.1)))), (zH I C Y Γ D O X.2 ou od j)) : (Option Value ⊕ String) × px_H) = y
  replace hM := hM.symm
  have hk : pt_mt[88]? = some pt_r88 := rfl
  unfold fM_isLabelTorn at hx
  refine ev_ls (L' := [some (.ref 247), some (.int a1)]) (st' := [.ref 247]) (pc' := 1) hk (.aload_n 0) 1 rfl rfl rfl rfl ?_
  refine ev_ls (L' := [some (.ref 247), some (.int a1)]) (st' := [.ref 247, .ref 247]) (pc' := 2) hk (.aload_n 0) 1 rfl rfl rfl rfl ?_
  refine ev_ls (L' := [some (.ref 247), some (.int a1)]) (st' := [.int a1, .ref 247, .ref 247]) (pc' := 3) hk (.iload_n 1) 1 rfl rfl rfl rfl ?_
  refine ev_cv 87 1 [.int (b2i (fM_isLabel M a1)), .ref 247] 6 hk rfl rfl rfl rfl lk_model rfl rfl rfl (rM_isLabel rfl) rfl rfl rfl rfl ?_
  obtain ⟨v2, M1, hc3, hx⟩ := bnd2_some hx
  refine ev_cv 59 1 [.int (b2i v2)] 9 hk rfl rfl rfl rfl lk_model rfl rfl rfl (rM_goes hc3) rfl rfl rfl rfl ?_
  refine ev_d1 26 12 hk rfl rfl rfl rfl (px_beq hx (fun hc hx => ?_) (fun hc hx => ?_))
  · refine ev_op (st' := [.int 0]) (pc' := 27) hk (.iconst 0) 1 rfl rfl rfl ?_
    cases hx
    obtain rfl := hM
    exact ev_retZ false rfl hk rfl rfl
  · refine ev_ls (L' := [some (.ref 247), some (.int a1)]) (st' := [.ref 247]) (pc' := 13) hk (.aload_n 0) 1 rfl rfl rfl rfl ?_
    refine ev_ls (L' := [some (.ref 247), some (.int a1)]) (st' := [.int a1, .ref 247]) (pc' := 14) hk (.iload_n 1) 1 rfl rfl rfl rfl ?_
    refine ev_op (st' := [.int 3, .int a1, .ref 247]) (pc' := 15) hk (.iconst 3) 1 rfl rfl rfl ?_
    obtain ⟨v4, hc5, hx⟩ := bnd_some hx
    refine ev_cv 103 2 [.int v4] 18 hk rfl rfl rfl rfl lk_model rfl rfl rfl (rM_its hc5) rfl rfl rfl rfl ?_
    refine ev_op (st' := [.int 1, .int v4]) (pc' := 19) hk (.iconst 1) 1 rfl rfl rfl ?_
    refine ev_d2 26 22 hk rfl rfl rfl rfl (px_cne hx (fun hc hx => ?_) (fun hc hx => ?_))
    · refine ev_op (st' := [.int 0]) (pc' := 27) hk (.iconst 0) 1 rfl rfl rfl ?_
      cases hx
      obtain rfl := hM
      exact ev_retZ false rfl hk rfl rfl
    · refine ev_op (st' := [.int 1]) (pc' := 23) hk (.iconst 1) 1 rfl rfl rfl ?_
      refine ev_jp (pc' := 27) (st' := [.int 1]) hk (.goto 4) 3 rfl rfl rfl rfl rfl ?_
      cases hx
      obtain rfl := hM
      exact ev_retZ true rfl hk rfl rfl
set_option maxRecDepth 2000 in
theorem rX_labelLast {S : Nat} {xs : Nat → Int32} {I : zI} {C : zC} {Y : Nat → Int32} {Γ : Nat → zG} {D : zD} {O : Nat → Int32} {M : zM} {ou : Nat → Int64} {od : Nat → UInt64} {j : Nat} {a1 : Int32} {X : (Int32 ⊕ String)}   (hx : fX_labelLast Γ a1 = some X) : Ev S xs 330 0 [some (.ref 0), some (.int a1)] [] (zH I C Y Γ D O M ou od j) (Sum.elim (fun v => ((.inl (some (.int v))), (zH I C Y Γ D O M ou od j))) (fun E => (.inr E, (zH I C Y Γ D O M ou od (j + 1)))) X : (Option Value ⊕ String) × px_H) := by
  generalize hM : (Sum.elim (fun v => ((.inl (some (.int v))), (zH I C Y Γ D O M ou od j))) (fun E => (.inr E, (zH I C Y Γ D O M ou od (j + 1)))) X : (Option Value ⊕ String) × px_H) = y
  replace hM := hM.symm
  have hk : pt_mt[330]? = some pt_r330 := rfl
  unfold fX_labelLast at hx
  refine ev_ls (L' := [some (.ref 0), some (.int a1)]) (st' := [.ref 0]) (pc' := 1) hk (.aload_n 0) 1 rfl rfl rfl rfl ?_
  refine ev_ls (L' := [some (.ref 0), some (.int a1)]) (st' := [.int a1, .ref 0]) (pc' := 2) hk (.iload_n 1) 1 rfl rfl rfl rfl ?_
  rcases bnx_some hx with ⟨⟨⟩, hc2, hx⟩ | ⟨E3, hc2, hx⟩
  · skip
    refine ev_cv 342 1 [] 5 hk rfl rfl rfl rfl lk_dh rfl rfl rfl (rX_needLabel hc2) rfl rfl rfl rfl ?_
    refine ev_ls (L' := [some (.ref 0), some (.int a1)]) (st' := [.ref 0]) (pc' := 6) hk (.aload_n 0) 1 rfl rfl rfl rfl ?_
    refine ev_gf (.ref 10) 9 hk rfl rfl lk_dh rfl rfl ?_
    refine ev_gf (.ref (10 + 17)) 12 hk rfl rfl (lk_globe isG_10 rfl) rfl rfl ?_
    refine ev_ls (L' := [some (.ref 0), some (.int a1)]) (st' := [.int a1, .ref (10 + 17)]) (pc' := 13) hk (.iload_n 1) 1 rfl rfl rfl rfl ?_
    obtain ⟨p5, hp5, hx⟩ := bnd_some hx
    have hpp5 := rix_lt hp5
    refine ev_aal (10 + (18 + p5)) hp5 14 hk rfl (lk_labels isG_10 rfl) (by decide) (lk_la hpp5) rfl ?_
    refine ev_gf (.int (gF (Γ 10) (18 + p5) 2)) 17 hk rfl rfl (lk_label isG_10 hpp5 rfl) rfl rfl ?_
    cases hx
    obtain rfl := hM
    exact ev_retI hk rfl rfl
  · skip
    cases hx
    obtain rfl := hM
    exact ev_cvX 342 1 hk rfl rfl rfl rfl lk_dh rfl rfl rfl rfl (rX_needLabel hc2) rfl rfl
set_option maxRecDepth 2000 in
theorem rw_labelLast {S : Nat} {xs : Nat → Int32} {I : zI} {C : zC} {Y : Nat → Int32} {Γ : Nat → zG} {D : zD} {O : Nat → Int32} {M : zM} {ou : Nat → Int64} {od : Nat → UInt64} {j : Nat} {a1 : Int32} {X : Int32 × (Nat → Int64) × Nat}   (hx : fw_labelLast Γ ou j a1 = some X) : Ev S xs 388 0 [some (.ref 0), some (.int a1), some (.ref 261), none] [] (zH I C Y Γ D O M ou od j) (((.inl (some (.int X.1))), (zH I C Y Γ D O M X.2.1 od X.2.2)) : (Option Value ⊕ String) × px_H) := by
  generalize hM : (((.inl (some (.int X.1))), (zH I C Y Γ D O M X.2.1 od X.2.2)) : (Option Value ⊕ String) × px_H) = y
  replace hM := hM.symm
  have hk : pt_mt[388]? = some pt_r388 := rfl
  unfold fw_labelLast at hx
  refine ev_ls (L' := [some (.ref 0), some (.int a1), some (.ref 261), none]) (st' := [.ref 261]) (pc' := 1) hk (.aload_n 2) 1 rfl rfl rfl rfl ?_
  refine ev_op (st' := [.int 0, .ref 261]) (pc' := 2) hk (.iconst 0) 1 rfl rfl rfl ?_
  refine ev_ls (L' := [some (.ref 0), some (.int a1), some (.ref 261), none]) (st' := [.ref 0, .int 0, .ref 261]) (pc' := 3) hk (.aload_n 0) 1 rfl rfl rfl rfl ?_
  refine ev_ls (L' := [some (.ref 0), some (.int a1), some (.ref 261), none]) (st' := [.int a1, .ref 0, .int 0, .ref 261]) (pc' := 4) hk (.iload_n 1) 1 rfl rfl rfl rfl ?_
  rcases bnx_some hx with ⟨v4, hc2, hx⟩ | ⟨E3, hc2, hx⟩
  · skip
    refine ev_cv 330 1 [.int v4, .int 0, .ref 261] 7 hk rfl rfl rfl rfl lk_dh rfl rfl rfl (rX_labelLast hc2) rfl rfl rfl rfl ?_
    refine ev_op (st' := [.long (Int32.toInt64 v4), .int 0, .ref 261]) (pc' := 8) hk (.i2l) 1 rfl rfl rfl ?_
    obtain ⟨ou5, hou5, hx⟩ := bnd_some hx
    have hou5 := Option.some.inj hou5
    refine ev_las (A := (vp_updL ou 0 (Int32.toInt64 v4))) rfl 9 hk rfl lk_ou (sa_ou hou5) rfl ?_
    refine ev_jp (pc' := 15) (st' := []) hk (.goto 6) 3 rfl rfl rfl rfl rfl ?_
    refine ev_op (st' := [.int 0]) (pc' := 16) hk (.iconst 0) 1 rfl rfl rfl ?_
    cases hx
    obtain rfl := hM
    exact ev_retI hk rfl rfl
  · skip
    rcases ite_or hx with ⟨hE, hx⟩ | ⟨hE, hx⟩
    · subst hE
      refine ev_cvC 330 1 13 hk rfl rfl rfl rfl lk_dh rfl rfl rfl (t := 12) (by decide +kernel) (L' := [some (.ref 0), some (.int a1), some (.ref 261), none]) rfl (rX_labelLast hc2) rfl rfl ?_
      refine ev_op (st' := [.int 1]) (pc' := 14) hk (.iconst 1) 1 rfl rfl rfl ?_
      cases hx
      obtain rfl := hM
      exact ev_retI hk rfl rfl
    cases hx
set_option maxRecDepth 2000 in
theorem rM_labelLast {S : Nat} {xs : Nat → Int32} {I : zI} {C : zC} {Y : Nat → Int32} {Γ : Nat → zG} {D : zD} {O : Nat → Int32} {M : zM} {ou : Nat → Int64} {od : Nat → UInt64} {j : Nat} {a1 : Int32} {X : Int32 × zM}   (hx : fM_labelLast M a1 = some X) : Ev S xs 110 0 [some (.ref 247), some (.int a1)] [] (zH I C Y Γ D O M ou od j) (((.inl (some (.int X.1))), (zH I C Y Γ D O X.2 ou od j)) : (Option Value ⊕ String) × px_H) := by
  generalize hM : (((.inl (some (.int X.1))), (zH I C Y Γ D O X.2 ou od j)) : (Option Value ⊕ String) × px_H) = y
  replace hM := hM.symm
  have hk : pt_mt[110]? = some pt_r110 := rfl
  unfold fM_labelLast at hx
  refine ev_ls (L' := [some (.ref 247), some (.int a1)]) (st' := [.ref 247]) (pc' := 1) hk (.aload_n 0) 1 rfl rfl rfl rfl ?_
  refine ev_ls (L' := [some (.ref 247), some (.int a1)]) (st' := [.ref 247, .ref 247]) (pc' := 2) hk (.aload_n 0) 1 rfl rfl rfl rfl ?_
  refine ev_ls (L' := [some (.ref 247), some (.int a1)]) (st' := [.int a1, .ref 247, .ref 247]) (pc' := 3) hk (.iload_n 1) 1 rfl rfl rfl rfl ?_
  refine ev_cv 87 1 [.int (b2i (fM_isLabel M a1)), .ref 247] 6 hk rfl rfl rfl rfl lk_model rfl rfl rfl (rM_isLabel rfl) rfl rfl rfl rfl ?_
  obtain ⟨v2, M1, hc3, hx⟩ := bnd2_some hx
  refine ev_cv 59 1 [.int (b2i v2)] 9 hk rfl rfl rfl rfl lk_model rfl rfl rfl (rM_goes hc3) rfl rfl rfl rfl ?_
  refine ev_d1 20 12 hk rfl rfl rfl rfl (px_beq hx (fun hc hx => ?_) (fun hc hx => ?_))
  · refine ev_op (st' := [.int 0]) (pc' := 21) hk (.iconst 0) 1 rfl rfl rfl ?_
    cases hx
    obtain rfl := hM
    exact ev_retI hk rfl rfl
  · refine ev_ls (L' := [some (.ref 247), some (.int a1)]) (st' := [.ref 247]) (pc' := 13) hk (.aload_n 0) 1 rfl rfl rfl rfl ?_
    refine ev_ls (L' := [some (.ref 247), some (.int a1)]) (st' := [.int a1, .ref 247]) (pc' := 14) hk (.iload_n 1) 1 rfl rfl rfl rfl ?_
    obtain ⟨v4, hc5, hx⟩ := bnd_some hx
    refine ev_cv 116 1 [.int v4] 17 hk rfl rfl rfl rfl lk_model rfl rfl rfl (rM_lastOf hc5) rfl rfl rfl rfl ?_
    refine ev_jp (pc' := 21) (st' := [.int v4]) hk (.goto 4) 3 rfl rfl rfl rfl rfl ?_
    cases hx
    obtain rfl := hM
    exact ev_retI hk rfl rfl
set_option maxRecDepth 2000 in
theorem rX_labelFirst {S : Nat} {xs : Nat → Int32} {I : zI} {C : zC} {Y : Nat → Int32} {Γ : Nat → zG} {D : zD} {O : Nat → Int32} {M : zM} {ou : Nat → Int64} {od : Nat → UInt64} {j : Nat} {a1 : Int32} {X : (Int32 ⊕ String)}   (hx : fX_labelFirst Γ a1 = some X) : Ev S xs 329 0 [some (.ref 0), some (.int a1)] [] (zH I C Y Γ D O M ou od j) (Sum.elim (fun v => ((.inl (some (.int v))), (zH I C Y Γ D O M ou od j))) (fun E => (.inr E, (zH I C Y Γ D O M ou od (j + 1)))) X : (Option Value ⊕ String) × px_H) := by
  generalize hM : (Sum.elim (fun v => ((.inl (some (.int v))), (zH I C Y Γ D O M ou od j))) (fun E => (.inr E, (zH I C Y Γ D O M ou od (j + 1)))) X : (Option Value ⊕ String) × px_H) = y
  replace hM := hM.symm
  have hk : pt_mt[329]? = some pt_r329 := rfl
  unfold fX_labelFirst at hx
  refine ev_ls (L' := [some (.ref 0), some (.int a1)]) (st' := [.ref 0]) (pc' := 1) hk (.aload_n 0) 1 rfl rfl rfl rfl ?_
  refine ev_ls (L' := [some (.ref 0), some (.int a1)]) (st' := [.int a1, .ref 0]) (pc' := 2) hk (.iload_n 1) 1 rfl rfl rfl rfl ?_
  rcases bnx_some hx with ⟨⟨⟩, hc2, hx⟩ | ⟨E3, hc2, hx⟩
  · skip
    refine ev_cv 342 1 [] 5 hk rfl rfl rfl rfl lk_dh rfl rfl rfl (rX_needLabel hc2) rfl rfl rfl rfl ?_
    refine ev_ls (L' := [some (.ref 0), some (.int a1)]) (st' := [.ref 0]) (pc' := 6) hk (.aload_n 0) 1 rfl rfl rfl rfl ?_
    refine ev_gf (.ref 10) 9 hk rfl rfl lk_dh rfl rfl ?_
    refine ev_gf (.ref (10 + 17)) 12 hk rfl rfl (lk_globe isG_10 rfl) rfl rfl ?_
    refine ev_ls (L' := [some (.ref 0), some (.int a1)]) (st' := [.int a1, .ref (10 + 17)]) (pc' := 13) hk (.iload_n 1) 1 rfl rfl rfl rfl ?_
    obtain ⟨p5, hp5, hx⟩ := bnd_some hx
    have hpp5 := rix_lt hp5
    refine ev_aal (10 + (18 + p5)) hp5 14 hk rfl (lk_labels isG_10 rfl) (by decide) (lk_la hpp5) rfl ?_
    refine ev_gf (.int (gF (Γ 10) (18 + p5) 1)) 17 hk rfl rfl (lk_label isG_10 hpp5 rfl) rfl rfl ?_
    cases hx
    obtain rfl := hM
    exact ev_retI hk rfl rfl
  · skip
    cases hx
    obtain rfl := hM
    exact ev_cvX 342 1 hk rfl rfl rfl rfl lk_dh rfl rfl rfl rfl (rX_needLabel hc2) rfl rfl
set_option maxRecDepth 2000 in
theorem rw_labelFirst {S : Nat} {xs : Nat → Int32} {I : zI} {C : zC} {Y : Nat → Int32} {Γ : Nat → zG} {D : zD} {O : Nat → Int32} {M : zM} {ou : Nat → Int64} {od : Nat → UInt64} {j : Nat} {a1 : Int32} {X : Int32 × (Nat → Int64) × Nat}   (hx : fw_labelFirst Γ ou j a1 = some X) : Ev S xs 387 0 [some (.ref 0), some (.int a1), some (.ref 261), none] [] (zH I C Y Γ D O M ou od j) (((.inl (some (.int X.1))), (zH I C Y Γ D O M X.2.1 od X.2.2)) : (Option Value ⊕ String) × px_H) := by
  generalize hM : (((.inl (some (.int X.1))), (zH I C Y Γ D O M X.2.1 od X.2.2)) : (Option Value ⊕ String) × px_H) = y
  replace hM := hM.symm
  have hk : pt_mt[387]? = some pt_r387 := rfl
  unfold fw_labelFirst at hx
  refine ev_ls (L' := [some (.ref 0), some (.int a1), some (.ref 261), none]) (st' := [.ref 261]) (pc' := 1) hk (.aload_n 2) 1 rfl rfl rfl rfl ?_
  refine ev_op (st' := [.int 0, .ref 261]) (pc' := 2) hk (.iconst 0) 1 rfl rfl rfl ?_
  refine ev_ls (L' := [some (.ref 0), some (.int a1), some (.ref 261), none]) (st' := [.ref 0, .int 0, .ref 261]) (pc' := 3) hk (.aload_n 0) 1 rfl rfl rfl rfl ?_
  refine ev_ls (L' := [some (.ref 0), some (.int a1), some (.ref 261), none]) (st' := [.int a1, .ref 0, .int 0, .ref 261]) (pc' := 4) hk (.iload_n 1) 1 rfl rfl rfl rfl ?_
  rcases bnx_some hx with ⟨v4, hc2, hx⟩ | ⟨E3, hc2, hx⟩
  · skip
    refine ev_cv 329 1 [.int v4, .int 0, .ref 261] 7 hk rfl rfl rfl rfl lk_dh rfl rfl rfl (rX_labelFirst hc2) rfl rfl rfl rfl ?_
    refine ev_op (st' := [.long (Int32.toInt64 v4), .int 0, .ref 261]) (pc' := 8) hk (.i2l) 1 rfl rfl rfl ?_
    obtain ⟨ou5, hou5, hx⟩ := bnd_some hx
    have hou5 := Option.some.inj hou5
    refine ev_las (A := (vp_updL ou 0 (Int32.toInt64 v4))) rfl 9 hk rfl lk_ou (sa_ou hou5) rfl ?_
    refine ev_jp (pc' := 15) (st' := []) hk (.goto 6) 3 rfl rfl rfl rfl rfl ?_
    refine ev_op (st' := [.int 0]) (pc' := 16) hk (.iconst 0) 1 rfl rfl rfl ?_
    cases hx
    obtain rfl := hM
    exact ev_retI hk rfl rfl
  · skip
    rcases ite_or hx with ⟨hE, hx⟩ | ⟨hE, hx⟩
    · subst hE
      refine ev_cvC 329 1 13 hk rfl rfl rfl rfl lk_dh rfl rfl rfl (t := 12) (by decide +kernel) (L' := [some (.ref 0), some (.int a1), some (.ref 261), none]) rfl (rX_labelFirst hc2) rfl rfl ?_
      refine ev_op (st' := [.int 1]) (pc' := 14) hk (.iconst 1) 1 rfl rfl rfl ?_
      cases hx
      obtain rfl := hM
      exact ev_retI hk rfl rfl
    cases hx
set_option maxRecDepth 2000 in
theorem rM_inLabel {S : Nat} {xs : Nat → Int32} {I : zI} {C : zC} {Y : Nat → Int32} {Γ : Nat → zG} {D : zD} {O : Nat → Int32} {M : zM} {ou : Nat → Int64} {od : Nat → UInt64} {j : Nat} {a1 : Int32} {a2 : Int32} {X : Int32 × zM}   (hx : fM_inLabel M a1 a2 = some X) : Ev S xs 76 0 [some (.ref 247), some (.int a1), some (.int a2)] [] (zH I C Y Γ D O M ou od j) (((.inl (some (.int X.1))), (zH I C Y Γ D O X.2 ou od j)) : (Option Value ⊕ String) × px_H) := by
  generalize hM : (((.inl (some (.int X.1))), (zH I C Y Γ D O X.2 ou od j)) : (Option Value ⊕ String) × px_H) = y
  replace hM := hM.symm
  have hk : pt_mt[76]? = some pt_r76 := rfl
  unfold fM_inLabel at hx
  refine ev_ls (L' := [some (.ref 247), some (.int a1), some (.int a2)]) (st' := [.ref 247]) (pc' := 1) hk (.aload_n 0) 1 rfl rfl rfl rfl ?_
  refine ev_ls (L' := [some (.ref 247), some (.int a1), some (.int a2)]) (st' := [.ref 247, .ref 247]) (pc' := 2) hk (.aload_n 0) 1 rfl rfl rfl rfl ?_
  refine ev_ls (L' := [some (.ref 247), some (.int a1), some (.int a2)]) (st' := [.int a1, .ref 247, .ref 247]) (pc' := 3) hk (.iload_n 1) 1 rfl rfl rfl rfl ?_
  refine ev_cv 87 1 [.int (b2i (fM_isLabel M a1)), .ref 247] 6 hk rfl rfl rfl rfl lk_model rfl rfl rfl (rM_isLabel rfl) rfl rfl rfl rfl ?_
  obtain ⟨v2, M1, hc3, hx⟩ := bnd2_some hx
  refine ev_cv 59 1 [.int (b2i v2)] 9 hk rfl rfl rfl rfl lk_model rfl rfl rfl (rM_goes hc3) rfl rfl rfl rfl ?_
  refine ev_d1 21 12 hk rfl rfl rfl rfl (px_beq hx (fun hc hx => ?_) (fun hc hx => ?_))
  · refine ev_op (st' := [.int 0]) (pc' := 22) hk (.iconst 0) 1 rfl rfl rfl ?_
    cases hx
    obtain rfl := hM
    exact ev_retI hk rfl rfl
  · refine ev_ls (L' := [some (.ref 247), some (.int a1), some (.int a2)]) (st' := [.ref 247]) (pc' := 13) hk (.aload_n 0) 1 rfl rfl rfl rfl ?_
    refine ev_ls (L' := [some (.ref 247), some (.int a1), some (.int a2)]) (st' := [.int a1, .ref 247]) (pc' := 14) hk (.iload_n 1) 1 rfl rfl rfl rfl ?_
    refine ev_ls (L' := [some (.ref 247), some (.int a1), some (.int a2)]) (st' := [.int a2, .int a1, .ref 247]) (pc' := 15) hk (.iload_n 2) 1 rfl rfl rfl rfl ?_
    obtain ⟨v4, hc5, hx⟩ := bnd_some hx
    refine ev_cv 103 2 [.int v4] 18 hk rfl rfl rfl rfl lk_model rfl rfl rfl (rM_its hc5) rfl rfl rfl rfl ?_
    refine ev_jp (pc' := 22) (st' := [.int v4]) hk (.goto 4) 3 rfl rfl rfl rfl rfl ?_
    cases hx
    obtain rfl := hM
    exact ev_retI hk rfl rfl
set_option maxRecDepth 2000 in
theorem rM_labelFirst {S : Nat} {xs : Nat → Int32} {I : zI} {C : zC} {Y : Nat → Int32} {Γ : Nat → zG} {D : zD} {O : Nat → Int32} {M : zM} {ou : Nat → Int64} {od : Nat → UInt64} {j : Nat} {a1 : Int32} {X : Int32 × zM}   (hx : fM_labelFirst M a1 = some X) : Ev S xs 109 0 [some (.ref 247), some (.int a1)] [] (zH I C Y Γ D O M ou od j) (((.inl (some (.int X.1))), (zH I C Y Γ D O X.2 ou od j)) : (Option Value ⊕ String) × px_H) := by
  generalize hM : (((.inl (some (.int X.1))), (zH I C Y Γ D O X.2 ou od j)) : (Option Value ⊕ String) × px_H) = y
  replace hM := hM.symm
  have hk : pt_mt[109]? = some pt_r109 := rfl
  unfold fM_labelFirst at hx
  refine ev_ls (L' := [some (.ref 247), some (.int a1)]) (st' := [.ref 247]) (pc' := 1) hk (.aload_n 0) 1 rfl rfl rfl rfl ?_
  refine ev_ls (L' := [some (.ref 247), some (.int a1)]) (st' := [.int a1, .ref 247]) (pc' := 2) hk (.iload_n 1) 1 rfl rfl rfl rfl ?_
  refine ev_op (st' := [.int 1, .int a1, .ref 247]) (pc' := 3) hk (.iconst 1) 1 rfl rfl rfl ?_
  obtain ⟨v2, M1, hc3, hx⟩ := bnd2_some hx
  refine ev_cv 76 2 [.int v2] 6 hk rfl rfl rfl rfl lk_model rfl rfl rfl (rM_inLabel hc3) rfl rfl rfl rfl ?_
  cases hx
  obtain rfl := hM
  exact ev_retI hk rfl rfl
set_option maxRecDepth 2000 in
theorem rX_labelBand {S : Nat} {xs : Nat → Int32} {I : zI} {C : zC} {Y : Nat → Int32} {Γ : Nat → zG} {D : zD} {O : Nat → Int32} {M : zM} {ou : Nat → Int64} {od : Nat → UInt64} {j : Nat} {a1 : Int32} {X : (Int32 ⊕ String)}   (hx : fX_labelBand Γ a1 = some X) : Ev S xs 327 0 [some (.ref 0), some (.int a1)] [] (zH I C Y Γ D O M ou od j) (Sum.elim (fun v => ((.inl (some (.int v))), (zH I C Y Γ D O M ou od j))) (fun E => (.inr E, (zH I C Y Γ D O M ou od (j + 1)))) X : (Option Value ⊕ String) × px_H) := by
  generalize hM : (Sum.elim (fun v => ((.inl (some (.int v))), (zH I C Y Γ D O M ou od j))) (fun E => (.inr E, (zH I C Y Γ D O M ou od (j + 1)))) X : (Option Value ⊕ String) × px_H) = y
  replace hM := hM.symm
  have hk : pt_mt[327]? = some pt_r327 := rfl
  unfold fX_labelBand at hx
  refine ev_ls (L' := [some (.ref 0), some (.int a1)]) (st' := [.ref 0]) (pc' := 1) hk (.aload_n 0) 1 rfl rfl rfl rfl ?_
  refine ev_ls (L' := [some (.ref 0), some (.int a1)]) (st' := [.int a1, .ref 0]) (pc' := 2) hk (.iload_n 1) 1 rfl rfl rfl rfl ?_
  rcases bnx_some hx with ⟨⟨⟩, hc2, hx⟩ | ⟨E3, hc2, hx⟩
  · skip
    refine ev_cv 342 1 [] 5 hk rfl rfl rfl rfl lk_dh rfl rfl rfl (rX_needLabel hc2) rfl rfl rfl rfl ?_
    refine ev_ls (L' := [some (.ref 0), some (.int a1)]) (st' := [.ref 0]) (pc' := 6) hk (.aload_n 0) 1 rfl rfl rfl rfl ?_
    refine ev_gf (.ref 10) 9 hk rfl rfl lk_dh rfl rfl ?_
    refine ev_gf (.ref (10 + 17)) 12 hk rfl rfl (lk_globe isG_10 rfl) rfl rfl ?_
    refine ev_ls (L' := [some (.ref 0), some (.int a1)]) (st' := [.int a1, .ref (10 + 17)]) (pc' := 13) hk (.iload_n 1) 1 rfl rfl rfl rfl ?_
    obtain ⟨p5, hp5, hx⟩ := bnd_some hx
    have hpp5 := rix_lt hp5
    refine ev_aal (10 + (18 + p5)) hp5 14 hk rfl (lk_labels isG_10 rfl) (by decide) (lk_la hpp5) rfl ?_
    refine ev_gf (.int (gF (Γ 10) (18 + p5) 0)) 17 hk rfl rfl (lk_label isG_10 hpp5 rfl) rfl rfl ?_
    cases hx
    obtain rfl := hM
    exact ev_retI hk rfl rfl
  · skip
    cases hx
    obtain rfl := hM
    exact ev_cvX 342 1 hk rfl rfl rfl rfl lk_dh rfl rfl rfl rfl (rX_needLabel hc2) rfl rfl
set_option maxRecDepth 2000 in
theorem rw_labelBand {S : Nat} {xs : Nat → Int32} {I : zI} {C : zC} {Y : Nat → Int32} {Γ : Nat → zG} {D : zD} {O : Nat → Int32} {M : zM} {ou : Nat → Int64} {od : Nat → UInt64} {j : Nat} {a1 : Int32} {X : Int32 × (Nat → Int64) × Nat}   (hx : fw_labelBand Γ ou j a1 = some X) : Ev S xs 386 0 [some (.ref 0), some (.int a1), some (.ref 261), none] [] (zH I C Y Γ D O M ou od j) (((.inl (some (.int X.1))), (zH I C Y Γ D O M X.2.1 od X.2.2)) : (Option Value ⊕ String) × px_H) := by
  generalize hM : (((.inl (some (.int X.1))), (zH I C Y Γ D O M X.2.1 od X.2.2)) : (Option Value ⊕ String) × px_H) = y
  replace hM := hM.symm
  have hk : pt_mt[386]? = some pt_r386 := rfl
  unfold fw_labelBand at hx
  refine ev_ls (L' := [some (.ref 0), some (.int a1), some (.ref 261), none]) (st' := [.ref 261]) (pc' := 1) hk (.aload_n 2) 1 rfl rfl rfl rfl ?_
  refine ev_op (st' := [.int 0, .ref 261]) (pc' := 2) hk (.iconst 0) 1 rfl rfl rfl ?_
  refine ev_ls (L' := [some (.ref 0), some (.int a1), some (.ref 261), none]) (st' := [.ref 0, .int 0, .ref 261]) (pc' := 3) hk (.aload_n 0) 1 rfl rfl rfl rfl ?_
  refine ev_ls (L' := [some (.ref 0), some (.int a1), some (.ref 261), none]) (st' := [.int a1, .ref 0, .int 0, .ref 261]) (pc' := 4) hk (.iload_n 1) 1 rfl rfl rfl rfl ?_
  rcases bnx_some hx with ⟨v4, hc2, hx⟩ | ⟨E3, hc2, hx⟩
  · skip
    refine ev_cv 327 1 [.int v4, .int 0, .ref 261] 7 hk rfl rfl rfl rfl lk_dh rfl rfl rfl (rX_labelBand hc2) rfl rfl rfl rfl ?_
    refine ev_op (st' := [.long (Int32.toInt64 v4), .int 0, .ref 261]) (pc' := 8) hk (.i2l) 1 rfl rfl rfl ?_
    obtain ⟨ou5, hou5, hx⟩ := bnd_some hx
    have hou5 := Option.some.inj hou5
    refine ev_las (A := (vp_updL ou 0 (Int32.toInt64 v4))) rfl 9 hk rfl lk_ou (sa_ou hou5) rfl ?_
    refine ev_jp (pc' := 15) (st' := []) hk (.goto 6) 3 rfl rfl rfl rfl rfl ?_
    refine ev_op (st' := [.int 0]) (pc' := 16) hk (.iconst 0) 1 rfl rfl rfl ?_
    cases hx
    obtain rfl := hM
    exact ev_retI hk rfl rfl
  · skip
    rcases ite_or hx with ⟨hE, hx⟩ | ⟨hE, hx⟩
    · subst hE
      refine ev_cvC 327 1 13 hk rfl rfl rfl rfl lk_dh rfl rfl rfl (t := 12) (by decide +kernel) (L' := [some (.ref 0), some (.int a1), some (.ref 261), none]) rfl (rX_labelBand hc2) rfl rfl ?_
      refine ev_op (st' := [.int 1]) (pc' := 14) hk (.iconst 1) 1 rfl rfl rfl ?_
      cases hx
      obtain rfl := hM
      exact ev_retI hk rfl rfl
    cases hx
set_option maxRecDepth 2000 in
theorem rM_labelBand {S : Nat} {xs : Nat → Int32} {I : zI} {C : zC} {Y : Nat → Int32} {Γ : Nat → zG} {D : zD} {O : Nat → Int32} {M : zM} {ou : Nat → Int64} {od : Nat → UInt64} {j : Nat} {a1 : Int32} {X : Int32 × zM}   (hx : fM_labelBand M a1 = some X) : Ev S xs 107 0 [some (.ref 247), some (.int a1)] [] (zH I C Y Γ D O M ou od j) (((.inl (some (.int X.1))), (zH I C Y Γ D O X.2 ou od j)) : (Option Value ⊕ String) × px_H) := by
  generalize hM : (((.inl (some (.int X.1))), (zH I C Y Γ D O X.2 ou od j)) : (Option Value ⊕ String) × px_H) = y
  replace hM := hM.symm
  have hk : pt_mt[107]? = some pt_r107 := rfl
  unfold fM_labelBand at hx
  refine ev_ls (L' := [some (.ref 247), some (.int a1)]) (st' := [.ref 247]) (pc' := 1) hk (.aload_n 0) 1 rfl rfl rfl rfl ?_
  refine ev_ls (L' := [some (.ref 247), some (.int a1)]) (st' := [.int a1, .ref 247]) (pc' := 2) hk (.iload_n 1) 1 rfl rfl rfl rfl ?_
  refine ev_op (st' := [.int 0, .int a1, .ref 247]) (pc' := 3) hk (.iconst 0) 1 rfl rfl rfl ?_
  obtain ⟨v2, M1, hc3, hx⟩ := bnd2_some hx
  refine ev_cv 76 2 [.int v2] 6 hk rfl rfl rfl rfl lk_model rfl rfl rfl (rM_inLabel hc3) rfl rfl rfl rfl ?_
  cases hx
  obtain rfl := hM
  exact ev_retI hk rfl rfl
set_option maxRecDepth 2000 in
theorem rX_labelCount {S : Nat} {xs : Nat → Int32} {I : zI} {C : zC} {Y : Nat → Int32} {Γ : Nat → zG} {D : zD} {O : Nat → Int32} {M : zM} {ou : Nat → Int64} {od : Nat → UInt64} {j : Nat}  {X : Int32}   (hx : fX_labelCount Γ = X) : Ev S xs 328 0 [some (.ref 0)] [] (zH I C Y Γ D O M ou od j) (((.inl (some (.int X))), (zH I C Y Γ D O M ou od j)) : (Option Value ⊕ String) × px_H) := by
  generalize hM : (((.inl (some (.int X))), (zH I C Y Γ D O M ou od j)) : (Option Value ⊕ String) × px_H) = y
  replace hM := hM.symm
  have hk : pt_mt[328]? = some pt_r328 := rfl
  unfold fX_labelCount at hx
  refine ev_ls (L' := [some (.ref 0)]) (st' := [.ref 0]) (pc' := 1) hk (.aload_n 0) 1 rfl rfl rfl rfl ?_
  refine ev_gf (.ref 10) 4 hk rfl rfl lk_dh rfl rfl ?_
  refine ev_gf (.int (gF (Γ 10) 0 6)) 7 hk rfl rfl (lk_globe isG_10 rfl) rfl rfl ?_
  cases hx
  obtain rfl := hM
  exact ev_retI hk rfl rfl
set_option maxRecDepth 2000 in
theorem rM_labelCount {S : Nat} {xs : Nat → Int32} {I : zI} {C : zC} {Y : Nat → Int32} {Γ : Nat → zG} {D : zD} {O : Nat → Int32} {M : zM} {ou : Nat → Int64} {od : Nat → UInt64} {j : Nat}  {X : Int32 × zM}   (hx : fM_labelCount M = some X) : Ev S xs 108 0 [some (.ref 247)] [] (zH I C Y Γ D O M ou od j) (((.inl (some (.int X.1))), (zH I C Y Γ D O X.2 ou od j)) : (Option Value ⊕ String) × px_H) := by
  generalize hM : (((.inl (some (.int X.1))), (zH I C Y Γ D O X.2 ou od j)) : (Option Value ⊕ String) × px_H) = y
  replace hM := hM.symm
  have hk : pt_mt[108]? = some pt_r108 := rfl
  unfold fM_labelCount at hx
  refine ev_ls (L' := [some (.ref 247)]) (st' := [.ref 247]) (pc' := 1) hk (.aload_n 0) 1 rfl rfl rfl rfl ?_
  refine ev_ls (L' := [some (.ref 247)]) (st' := [.ref 247, .ref 247]) (pc' := 2) hk (.aload_n 0) 1 rfl rfl rfl rfl ?_
  refine ev_gf (.ref 249) 5 hk rfl rfl lk_model rfl rfl ?_
  refine ev_op (st' := [.int 2, .ref 249, .ref 247]) (pc' := 6) hk (.iconst 2) 1 rfl rfl rfl ?_
  refine ev_ial (v := ((mA M 249) 2)) rfl 7 hk rfl lk_m249 rfl ?_
  obtain ⟨v2, M1, hc3, hx⟩ := bnd2_some hx
  refine ev_cv 184 1 [.int v2] 10 hk rfl rfl rfl rfl lk_model rfl rfl rfl (rM_told hc3) rfl rfl rfl rfl ?_
  cases hx
  obtain rfl := hM
  exact ev_retI hk rfl rfl
def qG_spotNextAtMidnight_6 (S : Nat) (xs : Nat → Int32) (I : zI) (C : zC) (Y : Nat → Int32) (Γ : Nat → zG) (D : zD) (O : Nat → Int32) (M : zM) (ou : Nat → Int64) (od : Nat → UInt64) (j : Nat) (g : Nat) (G : zG) (y : (Option Value ⊕ String) × px_H) (s : Int32 × Int32 × Int32) : Prop := ∀ (u4 : Option Value) (hu4 : px_cz u4 = true), Ev S xs 250 6 [some (.ref g), some (.int s.1), some (.int s.2.1), some (.int s.2.2), u4] [] (zH I C Y (gup Γ g G) D O M ou od j) y
set_option maxRecDepth 4000 in
theorem rG_spotNextAtMidnight_b6 {S : Nat} {xs : Nat → Int32} {I : zI} {C : zC} {Y : Nat → Int32} {Γ : Nat → zG} {D : zD} {O : Nat → Int32} {M : zM} {ou : Nat → Int64} {od : Nat → UInt64} {j : Nat} {g : Nat} {G : zG}  {y : (Option Value ⊕ String) × px_H} {s : Int32 × Int32 × Int32} {x : (Int32 × Int32 × Int32) ⊕ (Int32)} (hg : isG g) (hx : fG_spotNextAtMidnight_b6 G s.1 s.2.1 s.2.2 = some x) (hM : (Sum.elim (qG_spotNextAtMidnight_6 S xs I C Y Γ D O M ou od j g G y) (fun X : Int32 => y = (((.inl (some (.int X))), (zH I C Y (gup Γ g G) D O M ou od j)) : (Option Value ⊕ String) × px_H))) x) : qG_spotNextAtMidnight_6 S xs I C Y Γ D O M ou od j g G y s := by
  obtain ⟨a1, a2, a3⟩ := s
  intro u4 hu4
  have hk : pt_mt[250]? = some pt_r250 := rfl
  unfold fG_spotNextAtMidnight_b6 at hx
  try dsimp only at hx
  refine ev_ls (L' := [some (.ref g), some (.int a1), some (.int a2), some (.int a3), u4]) (st' := [.int a3]) (pc' := 7) hk (.iload_n 3) 1 rfl rfl rfl rfl ?_
  refine ev_ls (L' := [some (.ref g), some (.int a1), some (.int a2), some (.int a3), u4]) (st' := [.ref g, .int a3]) (pc' := 8) hk (.aload_n 0) 1 rfl rfl rfl rfl ?_
  refine ev_gf (.int (gF G 0 4)) 11 hk rfl rfl (lk_globe hg gup_same) rfl rfl ?_
  refine ev_d2 63 14 hk rfl rfl rfl rfl (px_cge hx (fun hc hx => ?_) (fun hc hx => ?_))
  · refine ev_ls (L' := [some (.ref g), some (.int a1), some (.int a2), some (.int a3), u4]) (st' := [.int a1]) (pc' := 64) hk (.iload_n 1) 1 rfl rfl rfl rfl ?_
    cases hx
    obtain rfl := hM
    exact ev_retI hk rfl rfl
  · refine ev_op (st' := [.int 24]) (pc' := 16) hk (.bipush 24) 2 rfl rfl rfl ?_
    refine ev_ls (L' := [some (.ref g), some (.int a1), some (.int a2), some (.int a3), u4]) (st' := [.ref g, .int 24]) (pc' := 17) hk (.aload_n 0) 1 rfl rfl rfl rfl ?_
    refine ev_ls (L' := [some (.ref g), some (.int a1), some (.int a2), some (.int a3), u4]) (st' := [.ref g, .ref g, .int 24]) (pc' := 18) hk (.aload_n 0) 1 rfl rfl rfl rfl ?_
    refine ev_gf (.ref (g + 6)) 21 hk rfl rfl (lk_globe hg gup_same) rfl rfl ?_
    refine ev_ls (L' := [some (.ref g), some (.int a1), some (.int a2), some (.int a3), u4]) (st' := [.int a3, .ref (g + 6), .ref g, .int 24]) (pc' := 22) hk (.iload_n 3) 1 rfl rfl rfl rfl ?_
    obtain ⟨p5, hp5, hx⟩ := bnd_some hx
    have hpp5 := rix_lt hp5
    refine ev_aal (g + (7 + p5)) hp5 23 hk rfl (lk_spots hg gup_same) (by decide) (lk_sp hpp5) rfl ?_
    refine ev_gf (.int (gF G (7 + p5) 2)) 26 hk rfl rfl (lk_spot hg hpp5 gup_same) rfl rfl ?_
    refine ev_ls (L' := [some (.ref g), some (.int a1), some (.int a2), some (.int a3), u4]) (st' := [.ref g, .int (gF G (7 + p5) 2), .ref g, .int 24]) (pc' := 27) hk (.aload_n 0) 1 rfl rfl rfl rfl ?_
    refine ev_gf (.ref (g + 6)) 30 hk rfl rfl (lk_globe hg gup_same) rfl rfl ?_
    refine ev_ls (L' := [some (.ref g), some (.int a1), some (.int a2), some (.int a3), u4]) (st' := [.int a3, .ref (g + 6), .int (gF G (7 + p5) 2), .ref g, .int 24]) (pc' := 31) hk (.iload_n 3) 1 rfl rfl rfl rfl ?_
    obtain ⟨p6, hp6, hx⟩ := bnd_some hx
    have hpp6 := rix_lt hp6
    refine ev_aal (g + (7 + p6)) hp6 32 hk rfl (lk_spots hg gup_same) (by decide) (lk_sp hpp6) rfl ?_
    refine ev_gf (.int (gF G (7 + p6) 3)) 35 hk rfl rfl (lk_spot hg hpp6 gup_same) rfl rfl ?_
    obtain ⟨v7, hc8, hx⟩ := bnd_some hx
    refine ev_cv 236 2 [.int v7, .int 24] 38 hk rfl rfl rfl rfl (lk_globe hg gup_same) rfl rfl rfl (rG_localHour hg hc8) rfl rfl rfl rfl ?_
    refine ev_op (st' := [.int (24 - v7)]) (pc' := 39) hk (.isub) 1 rfl rfl rfl ?_
    refine ev_ls (L' := [some (.ref g), some (.int a1), some (.int a2), some (.int a3), some (.int (24 - v7))]) (st' := []) (pc' := 41) hk (.istore 4) 2 rfl rfl rfl rfl ?_
    refine ev_ls (L' := [some (.ref g), some (.int a1), some (.int a2), some (.int a3), some (.int (24 - v7))]) (st' := [.int a1]) (pc' := 42) hk (.iload_n 1) 1 rfl rfl rfl rfl ?_
    refine ev_op (st' := [.int (-1), .int a1]) (pc' := 43) hk (.iconst (-1)) 1 rfl rfl rfl ?_
    refine ev_d2 52 46 hk rfl rfl rfl rfl (px_ceq hx (fun hc hx => ?_) (fun hc hx => ?_))
    · refine ev_ls (L' := [some (.ref g), some (.int a1), some (.int a2), some (.int a3), some (.int (24 - v7))]) (st' := [.int a3]) (pc' := 53) hk (.iload_n 3) 1 rfl rfl rfl rfl ?_
      refine ev_ls (L' := [some (.ref g), some (.int a3), some (.int a2), some (.int a3), some (.int (24 - v7))]) (st' := []) (pc' := 54) hk (.istore_n 1) 1 rfl rfl rfl rfl ?_
      refine ev_ls (L' := [some (.ref g), some (.int a3), some (.int a2), some (.int a3), some (.int (24 - v7))]) (st' := [.int (24 - v7)]) (pc' := 56) hk (.iload 4) 2 rfl rfl rfl rfl ?_
      refine ev_ls (L' := [some (.ref g), some (.int a3), some (.int (24 - v7)), some (.int a3), some (.int (24 - v7))]) (st' := []) (pc' := 57) hk (.istore_n 2) 1 rfl rfl rfl rfl ?_
      refine ev_ls (L' := [some (.ref g), some (.int a3), some (.int (24 - v7)), some (.int (a3 + 1)), some (.int (24 - v7))]) (st' := []) (pc' := 60) hk (.iinc 3 1) 3 rfl rfl rfl rfl ?_
      refine ev_jp (pc' := 6) (st' := []) hk (.goto (-54)) 3 rfl rfl rfl rfl rfl ?_
      cases hx
      exact hM (some (.int (24 - v7))) rfl
    · refine ev_ls (L' := [some (.ref g), some (.int a1), some (.int a2), some (.int a3), some (.int (24 - v7))]) (st' := [.int (24 - v7)]) (pc' := 48) hk (.iload 4) 2 rfl rfl rfl rfl ?_
      refine ev_ls (L' := [some (.ref g), some (.int a1), some (.int a2), some (.int a3), some (.int (24 - v7))]) (st' := [.int a2, .int (24 - v7)]) (pc' := 49) hk (.iload_n 2) 1 rfl rfl rfl rfl ?_
      refine ev_d2 57 52 hk rfl rfl rfl rfl (px_cge hx (fun hc hx => ?_) (fun hc hx => ?_))
      · refine ev_ls (L' := [some (.ref g), some (.int a1), some (.int a2), some (.int (a3 + 1)), some (.int (24 - v7))]) (st' := []) (pc' := 60) hk (.iinc 3 1) 3 rfl rfl rfl rfl ?_
        refine ev_jp (pc' := 6) (st' := []) hk (.goto (-54)) 3 rfl rfl rfl rfl rfl ?_
        cases hx
        exact hM (some (.int (24 - v7))) rfl
      · refine ev_ls (L' := [some (.ref g), some (.int a1), some (.int a2), some (.int a3), some (.int (24 - v7))]) (st' := [.int a3]) (pc' := 53) hk (.iload_n 3) 1 rfl rfl rfl rfl ?_
        refine ev_ls (L' := [some (.ref g), some (.int a3), some (.int a2), some (.int a3), some (.int (24 - v7))]) (st' := []) (pc' := 54) hk (.istore_n 1) 1 rfl rfl rfl rfl ?_
        refine ev_ls (L' := [some (.ref g), some (.int a3), some (.int a2), some (.int a3), some (.int (24 - v7))]) (st' := [.int (24 - v7)]) (pc' := 56) hk (.iload 4) 2 rfl rfl rfl rfl ?_
        refine ev_ls (L' := [some (.ref g), some (.int a3), some (.int (24 - v7)), some (.int a3), some (.int (24 - v7))]) (st' := []) (pc' := 57) hk (.istore_n 2) 1 rfl rfl rfl rfl ?_
        refine ev_ls (L' := [some (.ref g), some (.int a3), some (.int (24 - v7)), some (.int (a3 + 1)), some (.int (24 - v7))]) (st' := []) (pc' := 60) hk (.iinc 3 1) 3 rfl rfl rfl rfl ?_
        refine ev_jp (pc' := 6) (st' := []) hk (.goto (-54)) 3 rfl rfl rfl rfl rfl ?_
        cases hx
        exact hM (some (.int (24 - v7))) rfl
set_option maxRecDepth 2000 in
theorem rG_spotNextAtMidnight {S : Nat} {xs : Nat → Int32} {I : zI} {C : zC} {Y : Nat → Int32} {Γ : Nat → zG} {D : zD} {O : Nat → Int32} {M : zM} {ou : Nat → Int64} {od : Nat → UInt64} {j : Nat} {g : Nat} {G : zG}  {X : Int32}  (hg : isG g) (hx : fG_spotNextAtMidnight G = some X) : Ev S xs 250 0 [some (.ref g), none, none, none, none] [] (zH I C Y (gup Γ g G) D O M ou od j) (((.inl (some (.int X))), (zH I C Y (gup Γ g G) D O M ou od j)) : (Option Value ⊕ String) × px_H) := by
  generalize hM : (((.inl (some (.int X))), (zH I C Y (gup Γ g G) D O M ou od j)) : (Option Value ⊕ String) × px_H) = y
  replace hM := hM.symm
  have hk : pt_mt[250]? = some pt_r250 := rfl
  unfold fG_spotNextAtMidnight at hx
  refine ev_op (st' := [.int (-1)]) (pc' := 1) hk (.iconst (-1)) 1 rfl rfl rfl ?_
  refine ev_ls (L' := [some (.ref g), some (.int (-1)), none, none, none]) (st' := []) (pc' := 2) hk (.istore_n 1) 1 rfl rfl rfl rfl ?_
  refine ev_op (st' := [.int 0]) (pc' := 3) hk (.iconst 0) 1 rfl rfl rfl ?_
  refine ev_ls (L' := [some (.ref g), some (.int (-1)), some (.int 0), none, none]) (st' := []) (pc' := 4) hk (.istore_n 2) 1 rfl rfl rfl rfl ?_
  refine ev_op (st' := [.int 0]) (pc' := 5) hk (.iconst 0) 1 rfl rfl rfl ?_
  refine ev_ls (L' := [some (.ref g), some (.int (-1)), some (.int 0), some (.int 0), none]) (st' := []) (pc' := 6) hk (.istore_n 3) 1 rfl rfl rfl rfl ?_
  exact ev_iter (qG_spotNextAtMidnight_6 S xs I C Y Γ D O M ou od j g G _) (fun X : Int32 => y = (((.inl (some (.int X))), (zH I C Y (gup Γ g G) D O M ou od j)) : (Option Value ⊕ String) × px_H)) (fun s x hb hM => rG_spotNextAtMidnight_b6 hg hb hM) fu _ _ hx hM none rfl
set_option maxRecDepth 2000 in
theorem rX_nextMidnight {S : Nat} {xs : Nat → Int32} {I : zI} {C : zC} {Y : Nat → Int32} {Γ : Nat → zG} {D : zD} {O : Nat → Int32} {M : zM} {ou : Nat → Int64} {od : Nat → UInt64} {j : Nat}  {X : Int32}   (hx : fX_nextMidnight Γ = some X) : Ev S xs 345 0 [some (.ref 0)] [] (zH I C Y Γ D O M ou od j) (((.inl (some (.int X))), (zH I C Y Γ D O M ou od j)) : (Option Value ⊕ String) × px_H) := by
  generalize hM : (((.inl (some (.int X))), (zH I C Y Γ D O M ou od j)) : (Option Value ⊕ String) × px_H) = y
  replace hM := hM.symm
  have hk : pt_mt[345]? = some pt_r345 := rfl
  unfold fX_nextMidnight at hx
  refine ev_ls (L' := [some (.ref 0)]) (st' := [.ref 0]) (pc' := 1) hk (.aload_n 0) 1 rfl rfl rfl rfl ?_
  refine ev_gf (.ref 10) 4 hk rfl rfl lk_dh rfl rfl ?_
  obtain ⟨v1, hc2, hx⟩ := bnd_some hx
  refine ev_cv 250 0 [.int v1] 7 hk rfl rfl rfl rfl (lk_globe isG_10 rfl) rfl rfl rfl (ev_gs2 (rG_spotNextAtMidnight isG_10 hc2)) rfl rfl rfl rfl ?_
  cases hx
  obtain rfl := hM
  exact ev_retI hk rfl rfl
def qM_nextMidnight_4 (S : Nat) (xs : Nat → Int32) (I : zI) (C : zC) (Y : Nat → Int32) (Γ : Nat → zG) (D : zD) (O : Nat → Int32) (M : zM) (ou : Nat → Int64) (od : Nat → UInt64) (j : Nat) (y : (Option Value ⊕ String) × px_H) (s : Int32 × Int32) : Prop := Ev S xs 143 4 [some (.ref 247), some (.int s.1), some (.int s.2)] [] (zH I C Y Γ D O M ou od j) y
set_option maxRecDepth 4000 in
theorem rM_nextMidnight_b4 {S : Nat} {xs : Nat → Int32} {I : zI} {C : zC} {Y : Nat → Int32} {Γ : Nat → zG} {D : zD} {O : Nat → Int32} {M : zM} {ou : Nat → Int64} {od : Nat → UInt64} {j : Nat}  {y : (Option Value ⊕ String) × px_H} {s : Int32 × Int32} {x : (Int32 × Int32) ⊕ (Int32 × zM)}  (hx : fM_nextMidnight_b4 M s.1 s.2 = some x) (hM : (Sum.elim (qM_nextMidnight_4 S xs I C Y Γ D O M ou od j y) (fun X : Int32 × zM => y = (((.inl (some (.int X.1))), (zH I C Y Γ D O X.2 ou od j)) : (Option Value ⊕ String) × px_H))) x) : qM_nextMidnight_4 S xs I C Y Γ D O M ou od j y s := by
  obtain ⟨a1, a2⟩ := s
  have hk : pt_mt[143]? = some pt_r143 := rfl
  unfold fM_nextMidnight_b4 at hx
  try dsimp only at hx
  refine ev_ls (L' := [some (.ref 247), some (.int a1), some (.int a2)]) (st' := [.int a2]) (pc' := 5) hk (.iload_n 2) 1 rfl rfl rfl rfl ?_
  refine ev_ls (L' := [some (.ref 247), some (.int a1), some (.int a2)]) (st' := [.ref 247, .int a2]) (pc' := 6) hk (.aload_n 0) 1 rfl rfl rfl rfl ?_
  refine ev_gf (.ref 249) 9 hk rfl rfl lk_model rfl rfl ?_
  refine ev_op (st' := [.int 1, .ref 249, .int a2]) (pc' := 10) hk (.iconst 1) 1 rfl rfl rfl ?_
  refine ev_ial (v := ((mA M 249) 1)) rfl 11 hk rfl lk_m249 rfl ?_
  refine ev_d2 46 14 hk rfl rfl rfl rfl (px_cge hx (fun hc hx => ?_) (fun hc hx => ?_))
  · refine ev_ls (L' := [some (.ref 247), some (.int a1), some (.int a2)]) (st' := [.ref 247]) (pc' := 47) hk (.aload_n 0) 1 rfl rfl rfl rfl ?_
    refine ev_ls (L' := [some (.ref 247), some (.int a1), some (.int a2)]) (st' := [.int a1, .ref 247]) (pc' := 48) hk (.iload_n 1) 1 rfl rfl rfl rfl ?_
    obtain ⟨v2, M1, hc3, hx⟩ := bnd2_some hx
    refine ev_cv 184 1 [.int v2] 51 hk rfl rfl rfl rfl lk_model rfl rfl rfl (rM_told hc3) rfl rfl rfl rfl ?_
    cases hx
    obtain rfl := hM
    exact ev_retI hk rfl rfl
  · refine ev_ls (L' := [some (.ref 247), some (.int a1), some (.int a2)]) (st' := [.int a1]) (pc' := 15) hk (.iload_n 1) 1 rfl rfl rfl rfl ?_
    refine ev_op (st' := [.int (-1), .int a1]) (pc' := 16) hk (.iconst (-1)) 1 rfl rfl rfl ?_
    refine ev_d2 38 19 hk rfl rfl rfl rfl (px_ceq hx (fun hc hx => ?_) (fun hc hx => ?_))
    · refine ev_ls (L' := [some (.ref 247), some (.int a1), some (.int a2)]) (st' := [.int a2]) (pc' := 39) hk (.iload_n 2) 1 rfl rfl rfl rfl ?_
      refine ev_ls (L' := [some (.ref 247), some (.int a2), some (.int a2)]) (st' := []) (pc' := 40) hk (.istore_n 1) 1 rfl rfl rfl rfl ?_
      refine ev_ls (L' := [some (.ref 247), some (.int a2), some (.int (a2 + 1))]) (st' := []) (pc' := 43) hk (.iinc 2 1) 3 rfl rfl rfl rfl ?_
      refine ev_jp (pc' := 4) (st' := []) hk (.goto (-39)) 3 rfl rfl rfl rfl rfl ?_
      cases hx
      exact hM
    · refine ev_op (st' := [.int 24]) (pc' := 21) hk (.bipush 24) 2 rfl rfl rfl ?_
      refine ev_ls (L' := [some (.ref 247), some (.int a1), some (.int a2)]) (st' := [.ref 247, .int 24]) (pc' := 22) hk (.aload_n 0) 1 rfl rfl rfl rfl ?_
      refine ev_ls (L' := [some (.ref 247), some (.int a1), some (.int a2)]) (st' := [.int a2, .ref 247, .int 24]) (pc' := 23) hk (.iload_n 2) 1 rfl rfl rfl rfl ?_
      obtain ⟨v4, hc5, hx⟩ := bnd_some hx
      refine ev_cv 74 1 [.int v4, .int 24] 26 hk rfl rfl rfl rfl lk_model rfl rfl rfl (rM_hourNow hc5) rfl rfl rfl rfl ?_
      refine ev_op (st' := [.int (24 - v4)]) (pc' := 27) hk (.isub) 1 rfl rfl rfl ?_
      refine ev_op (st' := [.int 24, .int (24 - v4)]) (pc' := 29) hk (.bipush 24) 2 rfl rfl rfl ?_
      refine ev_ls (L' := [some (.ref 247), some (.int a1), some (.int a2)]) (st' := [.ref 247, .int 24, .int (24 - v4)]) (pc' := 30) hk (.aload_n 0) 1 rfl rfl rfl rfl ?_
      refine ev_ls (L' := [some (.ref 247), some (.int a1), some (.int a2)]) (st' := [.int a1, .ref 247, .int 24, .int (24 - v4)]) (pc' := 31) hk (.iload_n 1) 1 rfl rfl rfl rfl ?_
      obtain ⟨v6, hc7, hx⟩ := bnd_some hx
      refine ev_cv 74 1 [.int v6, .int 24, .int (24 - v4)] 34 hk rfl rfl rfl rfl lk_model rfl rfl rfl (rM_hourNow hc7) rfl rfl rfl rfl ?_
      refine ev_op (st' := [.int (24 - v6), .int (24 - v4)]) (pc' := 35) hk (.isub) 1 rfl rfl rfl ?_
      refine ev_d2 40 38 hk rfl rfl rfl rfl (px_cge hx (fun hc hx => ?_) (fun hc hx => ?_))
      · refine ev_ls (L' := [some (.ref 247), some (.int a1), some (.int (a2 + 1))]) (st' := []) (pc' := 43) hk (.iinc 2 1) 3 rfl rfl rfl rfl ?_
        refine ev_jp (pc' := 4) (st' := []) hk (.goto (-39)) 3 rfl rfl rfl rfl rfl ?_
        cases hx
        exact hM
      · refine ev_ls (L' := [some (.ref 247), some (.int a1), some (.int a2)]) (st' := [.int a2]) (pc' := 39) hk (.iload_n 2) 1 rfl rfl rfl rfl ?_
        refine ev_ls (L' := [some (.ref 247), some (.int a2), some (.int a2)]) (st' := []) (pc' := 40) hk (.istore_n 1) 1 rfl rfl rfl rfl ?_
        refine ev_ls (L' := [some (.ref 247), some (.int a2), some (.int (a2 + 1))]) (st' := []) (pc' := 43) hk (.iinc 2 1) 3 rfl rfl rfl rfl ?_
        refine ev_jp (pc' := 4) (st' := []) hk (.goto (-39)) 3 rfl rfl rfl rfl rfl ?_
        cases hx
        exact hM
set_option maxRecDepth 2000 in
theorem rM_nextMidnight {S : Nat} {xs : Nat → Int32} {I : zI} {C : zC} {Y : Nat → Int32} {Γ : Nat → zG} {D : zD} {O : Nat → Int32} {M : zM} {ou : Nat → Int64} {od : Nat → UInt64} {j : Nat}  {X : Int32 × zM}   (hx : fM_nextMidnight M = some X) : Ev S xs 143 0 [some (.ref 247), none, none] [] (zH I C Y Γ D O M ou od j) (((.inl (some (.int X.1))), (zH I C Y Γ D O X.2 ou od j)) : (Option Value ⊕ String) × px_H) := by
  generalize hM : (((.inl (some (.int X.1))), (zH I C Y Γ D O X.2 ou od j)) : (Option Value ⊕ String) × px_H) = y
  replace hM := hM.symm
  have hk : pt_mt[143]? = some pt_r143 := rfl
  unfold fM_nextMidnight at hx
  refine ev_op (st' := [.int (-1)]) (pc' := 1) hk (.iconst (-1)) 1 rfl rfl rfl ?_
  refine ev_ls (L' := [some (.ref 247), some (.int (-1)), none]) (st' := []) (pc' := 2) hk (.istore_n 1) 1 rfl rfl rfl rfl ?_
  refine ev_op (st' := [.int 0]) (pc' := 3) hk (.iconst 0) 1 rfl rfl rfl ?_
  refine ev_ls (L' := [some (.ref 247), some (.int (-1)), some (.int 0)]) (st' := []) (pc' := 4) hk (.istore_n 2) 1 rfl rfl rfl rfl ?_
  exact ev_iter (qM_nextMidnight_4 S xs I C Y Γ D O M ou od j _) (fun X : Int32 × zM => y = (((.inl (some (.int X.1))), (zH I C Y Γ D O X.2 ou od j)) : (Option Value ⊕ String) × px_H)) (fun s x hb hM => rM_nextMidnight_b4 hb hM) fu _ _ hx hM 
set_option maxRecDepth 2000 in
theorem rX_crossingsOf {S : Nat} {xs : Nat → Int32} {I : zI} {C : zC} {Y : Nat → Int32} {Γ : Nat → zG} {D : zD} {O : Nat → Int32} {M : zM} {ou : Nat → Int64} {od : Nat → UInt64} {j : Nat} {a1 : Int32} {X : (Int32 ⊕ String)}   (hx : fX_crossingsOf Γ a1 = some X) : Ev S xs 306 0 [some (.ref 0), some (.int a1)] [] (zH I C Y Γ D O M ou od j) (Sum.elim (fun v => ((.inl (some (.int v))), (zH I C Y Γ D O M ou od j))) (fun E => (.inr E, (zH I C Y Γ D O M ou od (j + 1)))) X : (Option Value ⊕ String) × px_H) := by
  generalize hM : (Sum.elim (fun v => ((.inl (some (.int v))), (zH I C Y Γ D O M ou od j))) (fun E => (.inr E, (zH I C Y Γ D O M ou od (j + 1)))) X : (Option Value ⊕ String) × px_H) = y
  replace hM := hM.symm
  have hk : pt_mt[306]? = some pt_r306 := rfl
  unfold fX_crossingsOf at hx
  refine ev_ls (L' := [some (.ref 0), some (.int a1)]) (st' := [.ref 0]) (pc' := 1) hk (.aload_n 0) 1 rfl rfl rfl rfl ?_
  refine ev_ls (L' := [some (.ref 0), some (.int a1)]) (st' := [.int a1, .ref 0]) (pc' := 2) hk (.iload_n 1) 1 rfl rfl rfl rfl ?_
  rcases bnx_some hx with ⟨⟨⟩, hc2, hx⟩ | ⟨E3, hc2, hx⟩
  · skip
    refine ev_cv 344 1 [] 5 hk rfl rfl rfl rfl lk_dh rfl rfl rfl (rX_needSpot hc2) rfl rfl rfl rfl ?_
    refine ev_ls (L' := [some (.ref 0), some (.int a1)]) (st' := [.ref 0]) (pc' := 6) hk (.aload_n 0) 1 rfl rfl rfl rfl ?_
    refine ev_gf (.ref 10) 9 hk rfl rfl lk_dh rfl rfl ?_
    refine ev_gf (.ref (10 + 6)) 12 hk rfl rfl (lk_globe isG_10 rfl) rfl rfl ?_
    refine ev_ls (L' := [some (.ref 0), some (.int a1)]) (st' := [.int a1, .ref (10 + 6)]) (pc' := 13) hk (.iload_n 1) 1 rfl rfl rfl rfl ?_
    obtain ⟨p5, hp5, hx⟩ := bnd_some hx
    have hpp5 := rix_lt hp5
    refine ev_aal (10 + (7 + p5)) hp5 14 hk rfl (lk_spots isG_10 rfl) (by decide) (lk_sp hpp5) rfl ?_
    refine ev_gf (.int (gF (Γ 10) (7 + p5) 7)) 17 hk rfl rfl (lk_spot isG_10 hpp5 rfl) rfl rfl ?_
    cases hx
    obtain rfl := hM
    exact ev_retI hk rfl rfl
  · skip
    cases hx
    obtain rfl := hM
    exact ev_cvX 344 1 hk rfl rfl rfl rfl lk_dh rfl rfl rfl rfl (rX_needSpot hc2) rfl rfl
set_option maxRecDepth 2000 in
theorem rw_crossingsOf {S : Nat} {xs : Nat → Int32} {I : zI} {C : zC} {Y : Nat → Int32} {Γ : Nat → zG} {D : zD} {O : Nat → Int32} {M : zM} {ou : Nat → Int64} {od : Nat → UInt64} {j : Nat} {a1 : Int32} {X : Int32 × (Nat → Int64) × Nat}   (hx : fw_crossingsOf Γ ou j a1 = some X) : Ev S xs 373 0 [some (.ref 0), some (.int a1), some (.ref 261), none] [] (zH I C Y Γ D O M ou od j) (((.inl (some (.int X.1))), (zH I C Y Γ D O M X.2.1 od X.2.2)) : (Option Value ⊕ String) × px_H) := by
  generalize hM : (((.inl (some (.int X.1))), (zH I C Y Γ D O M X.2.1 od X.2.2)) : (Option Value ⊕ String) × px_H) = y
  replace hM := hM.symm
  have hk : pt_mt[373]? = some pt_r373 := rfl
  unfold fw_crossingsOf at hx
  refine ev_ls (L' := [some (.ref 0), some (.int a1), some (.ref 261), none]) (st' := [.ref 261]) (pc' := 1) hk (.aload_n 2) 1 rfl rfl rfl rfl ?_
  refine ev_op (st' := [.int 0, .ref 261]) (pc' := 2) hk (.iconst 0) 1 rfl rfl rfl ?_
  refine ev_ls (L' := [some (.ref 0), some (.int a1), some (.ref 261), none]) (st' := [.ref 0, .int 0, .ref 261]) (pc' := 3) hk (.aload_n 0) 1 rfl rfl rfl rfl ?_
  refine ev_ls (L' := [some (.ref 0), some (.int a1), some (.ref 261), none]) (st' := [.int a1, .ref 0, .int 0, .ref 261]) (pc' := 4) hk (.iload_n 1) 1 rfl rfl rfl rfl ?_
  rcases bnx_some hx with ⟨v4, hc2, hx⟩ | ⟨E3, hc2, hx⟩
  · skip
    refine ev_cv 306 1 [.int v4, .int 0, .ref 261] 7 hk rfl rfl rfl rfl lk_dh rfl rfl rfl (rX_crossingsOf hc2) rfl rfl rfl rfl ?_
    refine ev_op (st' := [.long (Int32.toInt64 v4), .int 0, .ref 261]) (pc' := 8) hk (.i2l) 1 rfl rfl rfl ?_
    obtain ⟨ou5, hou5, hx⟩ := bnd_some hx
    have hou5 := Option.some.inj hou5
    refine ev_las (A := (vp_updL ou 0 (Int32.toInt64 v4))) rfl 9 hk rfl lk_ou (sa_ou hou5) rfl ?_
    refine ev_jp (pc' := 15) (st' := []) hk (.goto 6) 3 rfl rfl rfl rfl rfl ?_
    refine ev_op (st' := [.int 0]) (pc' := 16) hk (.iconst 0) 1 rfl rfl rfl ?_
    cases hx
    obtain rfl := hM
    exact ev_retI hk rfl rfl
  · skip
    rcases ite_or hx with ⟨hE, hx⟩ | ⟨hE, hx⟩
    · subst hE
      refine ev_cvC 306 1 13 hk rfl rfl rfl rfl lk_dh rfl rfl rfl (t := 12) (by decide +kernel) (L' := [some (.ref 0), some (.int a1), some (.ref 261), none]) rfl (rX_crossingsOf hc2) rfl rfl ?_
      refine ev_op (st' := [.int 1]) (pc' := 14) hk (.iconst 1) 1 rfl rfl rfl ?_
      cases hx
      obtain rfl := hM
      exact ev_retI hk rfl rfl
    cases hx
set_option maxRecDepth 2000 in
theorem rM_inSpot {S : Nat} {xs : Nat → Int32} {I : zI} {C : zC} {Y : Nat → Int32} {Γ : Nat → zG} {D : zD} {O : Nat → Int32} {M : zM} {ou : Nat → Int64} {od : Nat → UInt64} {j : Nat} {a1 : Int32} {a2 : Int32} {X : Int32 × zM}   (hx : fM_inSpot M a1 a2 = some X) : Ev S xs 77 0 [some (.ref 247), some (.int a1), some (.int a2)] [] (zH I C Y Γ D O M ou od j) (((.inl (some (.int X.1))), (zH I C Y Γ D O X.2 ou od j)) : (Option Value ⊕ String) × px_H) := by
  generalize hM : (((.inl (some (.int X.1))), (zH I C Y Γ D O X.2 ou od j)) : (Option Value ⊕ String) × px_H) = y
  replace hM := hM.symm
  have hk : pt_mt[77]? = some pt_r77 := rfl
  unfold fM_inSpot at hx
  refine ev_ls (L' := [some (.ref 247), some (.int a1), some (.int a2)]) (st' := [.ref 247]) (pc' := 1) hk (.aload_n 0) 1 rfl rfl rfl rfl ?_
  refine ev_ls (L' := [some (.ref 247), some (.int a1), some (.int a2)]) (st' := [.ref 247, .ref 247]) (pc' := 2) hk (.aload_n 0) 1 rfl rfl rfl rfl ?_
  refine ev_ls (L' := [some (.ref 247), some (.int a1), some (.int a2)]) (st' := [.int a1, .ref 247, .ref 247]) (pc' := 3) hk (.iload_n 1) 1 rfl rfl rfl rfl ?_
  refine ev_cv 92 1 [.int (b2i (fM_isSpot M a1)), .ref 247] 6 hk rfl rfl rfl rfl lk_model rfl rfl rfl (rM_isSpot rfl) rfl rfl rfl rfl ?_
  obtain ⟨v2, M1, hc3, hx⟩ := bnd2_some hx
  refine ev_cv 59 1 [.int (b2i v2)] 9 hk rfl rfl rfl rfl lk_model rfl rfl rfl (rM_goes hc3) rfl rfl rfl rfl ?_
  refine ev_d1 21 12 hk rfl rfl rfl rfl (px_beq hx (fun hc hx => ?_) (fun hc hx => ?_))
  · refine ev_op (st' := [.int 0]) (pc' := 22) hk (.iconst 0) 1 rfl rfl rfl ?_
    cases hx
    obtain rfl := hM
    exact ev_retI hk rfl rfl
  · refine ev_ls (L' := [some (.ref 247), some (.int a1), some (.int a2)]) (st' := [.ref 247]) (pc' := 13) hk (.aload_n 0) 1 rfl rfl rfl rfl ?_
    refine ev_ls (L' := [some (.ref 247), some (.int a1), some (.int a2)]) (st' := [.int a1, .ref 247]) (pc' := 14) hk (.iload_n 1) 1 rfl rfl rfl rfl ?_
    refine ev_ls (L' := [some (.ref 247), some (.int a1), some (.int a2)]) (st' := [.int a2, .int a1, .ref 247]) (pc' := 15) hk (.iload_n 2) 1 rfl rfl rfl rfl ?_
    obtain ⟨v4, hc5, hx⟩ := bnd_some hx
    refine ev_cv 145 2 [.int v4] 18 hk rfl rfl rfl rfl lk_model rfl rfl rfl (rM_of hc5) rfl rfl rfl rfl ?_
    refine ev_jp (pc' := 22) (st' := [.int v4]) hk (.goto 4) 3 rfl rfl rfl rfl rfl ?_
    cases hx
    obtain rfl := hM
    exact ev_retI hk rfl rfl
set_option maxRecDepth 2000 in
theorem rM_crossingsOf {S : Nat} {xs : Nat → Int32} {I : zI} {C : zC} {Y : Nat → Int32} {Γ : Nat → zG} {D : zD} {O : Nat → Int32} {M : zM} {ou : Nat → Int64} {od : Nat → UInt64} {j : Nat} {a1 : Int32} {X : Int32 × zM}   (hx : fM_crossingsOf M a1 = some X) : Ev S xs 41 0 [some (.ref 247), some (.int a1)] [] (zH I C Y Γ D O M ou od j) (((.inl (some (.int X.1))), (zH I C Y Γ D O X.2 ou od j)) : (Option Value ⊕ String) × px_H) := by
  generalize hM : (((.inl (some (.int X.1))), (zH I C Y Γ D O X.2 ou od j)) : (Option Value ⊕ String) × px_H) = y
  replace hM := hM.symm
  have hk : pt_mt[41]? = some pt_r41 := rfl
  unfold fM_crossingsOf at hx
  refine ev_ls (L' := [some (.ref 247), some (.int a1)]) (st' := [.ref 247]) (pc' := 1) hk (.aload_n 0) 1 rfl rfl rfl rfl ?_
  refine ev_ls (L' := [some (.ref 247), some (.int a1)]) (st' := [.int a1, .ref 247]) (pc' := 2) hk (.iload_n 1) 1 rfl rfl rfl rfl ?_
  refine ev_op (st' := [.int 8, .int a1, .ref 247]) (pc' := 4) hk (.bipush 8) 2 rfl rfl rfl ?_
  obtain ⟨v2, M1, hc3, hx⟩ := bnd2_some hx
  refine ev_cv 77 2 [.int v2] 7 hk rfl rfl rfl rfl lk_model rfl rfl rfl (rM_inSpot hc3) rfl rfl rfl rfl ?_
  cases hx
  obtain rfl := hM
  exact ev_retI hk rfl rfl
set_option maxRecDepth 2000 in
theorem rX_degreesLeft {S : Nat} {xs : Nat → Int32} {I : zI} {C : zC} {Y : Nat → Int32} {Γ : Nat → zG} {D : zD} {O : Nat → Int32} {M : zM} {ou : Nat → Int64} {od : Nat → UInt64} {j : Nat} {a1 : Int32} {X : (Int32 ⊕ String)}   (hx : fX_degreesLeft Γ a1 = some X) : Ev S xs 309 0 [some (.ref 0), some (.int a1)] [] (zH I C Y Γ D O M ou od j) (Sum.elim (fun v => ((.inl (some (.int v))), (zH I C Y Γ D O M ou od j))) (fun E => (.inr E, (zH I C Y Γ D O M ou od (j + 1)))) X : (Option Value ⊕ String) × px_H) := by
  generalize hM : (Sum.elim (fun v => ((.inl (some (.int v))), (zH I C Y Γ D O M ou od j))) (fun E => (.inr E, (zH I C Y Γ D O M ou od (j + 1)))) X : (Option Value ⊕ String) × px_H) = y
  replace hM := hM.symm
  have hk : pt_mt[309]? = some pt_r309 := rfl
  unfold fX_degreesLeft at hx
  refine ev_ls (L' := [some (.ref 0), some (.int a1)]) (st' := [.ref 0]) (pc' := 1) hk (.aload_n 0) 1 rfl rfl rfl rfl ?_
  refine ev_ls (L' := [some (.ref 0), some (.int a1)]) (st' := [.int a1, .ref 0]) (pc' := 2) hk (.iload_n 1) 1 rfl rfl rfl rfl ?_
  rcases bnx_some hx with ⟨⟨⟩, hc2, hx⟩ | ⟨E3, hc2, hx⟩
  · skip
    refine ev_cv 344 1 [] 5 hk rfl rfl rfl rfl lk_dh rfl rfl rfl (rX_needSpot hc2) rfl rfl rfl rfl ?_
    refine ev_ls (L' := [some (.ref 0), some (.int a1)]) (st' := [.ref 0]) (pc' := 6) hk (.aload_n 0) 1 rfl rfl rfl rfl ?_
    refine ev_gf (.ref 10) 9 hk rfl rfl lk_dh rfl rfl ?_
    refine ev_gf (.ref (10 + 6)) 12 hk rfl rfl (lk_globe isG_10 rfl) rfl rfl ?_
    refine ev_ls (L' := [some (.ref 0), some (.int a1)]) (st' := [.int a1, .ref (10 + 6)]) (pc' := 13) hk (.iload_n 1) 1 rfl rfl rfl rfl ?_
    obtain ⟨p5, hp5, hx⟩ := bnd_some hx
    have hpp5 := rix_lt hp5
    refine ev_aal (10 + (7 + p5)) hp5 14 hk rfl (lk_spots isG_10 rfl) (by decide) (lk_sp hpp5) rfl ?_
    refine ev_gf (.int (gF (Γ 10) (7 + p5) 6)) 17 hk rfl rfl (lk_spot isG_10 hpp5 rfl) rfl rfl ?_
    cases hx
    obtain rfl := hM
    exact ev_retI hk rfl rfl
  · skip
    cases hx
    obtain rfl := hM
    exact ev_cvX 344 1 hk rfl rfl rfl rfl lk_dh rfl rfl rfl rfl (rX_needSpot hc2) rfl rfl
set_option maxRecDepth 2000 in
theorem rw_degreesLeft {S : Nat} {xs : Nat → Int32} {I : zI} {C : zC} {Y : Nat → Int32} {Γ : Nat → zG} {D : zD} {O : Nat → Int32} {M : zM} {ou : Nat → Int64} {od : Nat → UInt64} {j : Nat} {a1 : Int32} {X : Int32 × (Nat → Int64) × Nat}   (hx : fw_degreesLeft Γ ou j a1 = some X) : Ev S xs 376 0 [some (.ref 0), some (.int a1), some (.ref 261), none] [] (zH I C Y Γ D O M ou od j) (((.inl (some (.int X.1))), (zH I C Y Γ D O M X.2.1 od X.2.2)) : (Option Value ⊕ String) × px_H) := by
  generalize hM : (((.inl (some (.int X.1))), (zH I C Y Γ D O M X.2.1 od X.2.2)) : (Option Value ⊕ String) × px_H) = y
  replace hM := hM.symm
  have hk : pt_mt[376]? = some pt_r376 := rfl
  unfold fw_degreesLeft at hx
  refine ev_ls (L' := [some (.ref 0), some (.int a1), some (.ref 261), none]) (st' := [.ref 261]) (pc' := 1) hk (.aload_n 2) 1 rfl rfl rfl rfl ?_
  refine ev_op (st' := [.int 0, .ref 261]) (pc' := 2) hk (.iconst 0) 1 rfl rfl rfl ?_
  refine ev_ls (L' := [some (.ref 0), some (.int a1), some (.ref 261), none]) (st' := [.ref 0, .int 0, .ref 261]) (pc' := 3) hk (.aload_n 0) 1 rfl rfl rfl rfl ?_
  refine ev_ls (L' := [some (.ref 0), some (.int a1), some (.ref 261), none]) (st' := [.int a1, .ref 0, .int 0, .ref 261]) (pc' := 4) hk (.iload_n 1) 1 rfl rfl rfl rfl ?_
  rcases bnx_some hx with ⟨v4, hc2, hx⟩ | ⟨E3, hc2, hx⟩
  · skip
    refine ev_cv 309 1 [.int v4, .int 0, .ref 261] 7 hk rfl rfl rfl rfl lk_dh rfl rfl rfl (rX_degreesLeft hc2) rfl rfl rfl rfl ?_
    refine ev_op (st' := [.long (Int32.toInt64 v4), .int 0, .ref 261]) (pc' := 8) hk (.i2l) 1 rfl rfl rfl ?_
    obtain ⟨ou5, hou5, hx⟩ := bnd_some hx
    have hou5 := Option.some.inj hou5
    refine ev_las (A := (vp_updL ou 0 (Int32.toInt64 v4))) rfl 9 hk rfl lk_ou (sa_ou hou5) rfl ?_
    refine ev_jp (pc' := 15) (st' := []) hk (.goto 6) 3 rfl rfl rfl rfl rfl ?_
    refine ev_op (st' := [.int 0]) (pc' := 16) hk (.iconst 0) 1 rfl rfl rfl ?_
    cases hx
    obtain rfl := hM
    exact ev_retI hk rfl rfl
  · skip
    rcases ite_or hx with ⟨hE, hx⟩ | ⟨hE, hx⟩
    · subst hE
      refine ev_cvC 309 1 13 hk rfl rfl rfl rfl lk_dh rfl rfl rfl (t := 12) (by decide +kernel) (L' := [some (.ref 0), some (.int a1), some (.ref 261), none]) rfl (rX_degreesLeft hc2) rfl rfl ?_
      refine ev_op (st' := [.int 1]) (pc' := 14) hk (.iconst 1) 1 rfl rfl rfl ?_
      cases hx
      obtain rfl := hM
      exact ev_retI hk rfl rfl
    cases hx
set_option maxRecDepth 2000 in
theorem rM_degreesLeft {S : Nat} {xs : Nat → Int32} {I : zI} {C : zC} {Y : Nat → Int32} {Γ : Nat → zG} {D : zD} {O : Nat → Int32} {M : zM} {ou : Nat → Int64} {od : Nat → UInt64} {j : Nat} {a1 : Int32} {X : Int32 × zM}   (hx : fM_degreesLeft M a1 = some X) : Ev S xs 45 0 [some (.ref 247), some (.int a1)] [] (zH I C Y Γ D O M ou od j) (((.inl (some (.int X.1))), (zH I C Y Γ D O X.2 ou od j)) : (Option Value ⊕ String) × px_H) := by
  generalize hM : (((.inl (some (.int X.1))), (zH I C Y Γ D O X.2 ou od j)) : (Option Value ⊕ String) × px_H) = y
  replace hM := hM.symm
  have hk : pt_mt[45]? = some pt_r45 := rfl
  unfold fM_degreesLeft at hx
  refine ev_ls (L' := [some (.ref 247), some (.int a1)]) (st' := [.ref 247]) (pc' := 1) hk (.aload_n 0) 1 rfl rfl rfl rfl ?_
  refine ev_ls (L' := [some (.ref 247), some (.int a1)]) (st' := [.int a1, .ref 247]) (pc' := 2) hk (.iload_n 1) 1 rfl rfl rfl rfl ?_
  refine ev_op (st' := [.int 7, .int a1, .ref 247]) (pc' := 4) hk (.bipush 7) 2 rfl rfl rfl ?_
  obtain ⟨v2, M1, hc3, hx⟩ := bnd2_some hx
  refine ev_cv 77 2 [.int v2] 7 hk rfl rfl rfl rfl lk_model rfl rfl rfl (rM_inSpot hc3) rfl rfl rfl rfl ?_
  cases hx
  obtain rfl := hM
  exact ev_retI hk rfl rfl
set_option maxRecDepth 2000 in
theorem rX_dayOf {S : Nat} {xs : Nat → Int32} {I : zI} {C : zC} {Y : Nat → Int32} {Γ : Nat → zG} {D : zD} {O : Nat → Int32} {M : zM} {ou : Nat → Int64} {od : Nat → UInt64} {j : Nat} {a1 : Int32} {X : (Int32 ⊕ String)}   (hx : fX_dayOf Γ a1 = some X) : Ev S xs 308 0 [some (.ref 0), some (.int a1), none] [] (zH I C Y Γ D O M ou od j) (Sum.elim (fun v => ((.inl (some (.int v))), (zH I C Y Γ D O M ou od j))) (fun E => (.inr E, (zH I C Y Γ D O M ou od (j + 1)))) X : (Option Value ⊕ String) × px_H) := by
  generalize hM : (Sum.elim (fun v => ((.inl (some (.int v))), (zH I C Y Γ D O M ou od j))) (fun E => (.inr E, (zH I C Y Γ D O M ou od (j + 1)))) X : (Option Value ⊕ String) × px_H) = y
  replace hM := hM.symm
  have hk : pt_mt[308]? = some pt_r308 := rfl
  unfold fX_dayOf at hx
  refine ev_ls (L' := [some (.ref 0), some (.int a1), none]) (st' := [.ref 0]) (pc' := 1) hk (.aload_n 0) 1 rfl rfl rfl rfl ?_
  refine ev_ls (L' := [some (.ref 0), some (.int a1), none]) (st' := [.int a1, .ref 0]) (pc' := 2) hk (.iload_n 1) 1 rfl rfl rfl rfl ?_
  rcases bnx_some hx with ⟨⟨⟩, hc2, hx⟩ | ⟨E3, hc2, hx⟩
  · skip
    refine ev_cv 344 1 [] 5 hk rfl rfl rfl rfl lk_dh rfl rfl rfl (rX_needSpot hc2) rfl rfl rfl rfl ?_
    refine ev_ls (L' := [some (.ref 0), some (.int a1), none]) (st' := [.ref 0]) (pc' := 6) hk (.aload_n 0) 1 rfl rfl rfl rfl ?_
    refine ev_gf (.ref 10) 9 hk rfl rfl lk_dh rfl rfl ?_
    refine ev_gf (.ref (10 + 6)) 12 hk rfl rfl (lk_globe isG_10 rfl) rfl rfl ?_
    refine ev_ls (L' := [some (.ref 0), some (.int a1), none]) (st' := [.int a1, .ref (10 + 6)]) (pc' := 13) hk (.iload_n 1) 1 rfl rfl rfl rfl ?_
    obtain ⟨p5, hp5, hx⟩ := bnd_some hx
    have hpp5 := rix_lt hp5
    refine ev_aal (10 + (7 + p5)) hp5 14 hk rfl (lk_spots isG_10 rfl) (by decide) (lk_sp hpp5) rfl ?_
    refine ev_ls (L' := [some (.ref 0), some (.int a1), some (.ref (10 + (7 + p5)))]) (st' := []) (pc' := 15) hk (.astore_n 2) 1 rfl rfl rfl rfl ?_
    refine ev_ls (L' := [some (.ref 0), some (.int a1), some (.ref (10 + (7 + p5)))]) (st' := [.ref (10 + (7 + p5))]) (pc' := 16) hk (.aload_n 2) 1 rfl rfl rfl rfl ?_
    refine ev_gf (.int (b2i (gB (Γ 10) (7 + p5)))) 19 hk rfl rfl (lk_spot isG_10 hpp5 rfl) rfl rfl ?_
    refine ev_d1 29 22 hk rfl rfl rfl rfl (px_beq hx (fun hc hx => ?_) (fun hc hx => ?_))
    · refine ev_ls (L' := [some (.ref 0), some (.int a1), some (.ref (10 + (7 + p5)))]) (st' := [.ref 0]) (pc' := 30) hk (.aload_n 0) 1 rfl rfl rfl rfl ?_
      refine ev_gf (.ref 10) 33 hk rfl rfl lk_dh rfl rfl ?_
      refine ev_ls (L' := [some (.ref 0), some (.int a1), some (.ref (10 + (7 + p5)))]) (st' := [.ref (10 + (7 + p5)), .ref 10]) (pc' := 34) hk (.aload_n 2) 1 rfl rfl rfl rfl ?_
      refine ev_gf (.int (gF (Γ 10) (7 + p5) 2)) 37 hk rfl rfl (lk_spot isG_10 hpp5 rfl) rfl rfl ?_
      refine ev_ls (L' := [some (.ref 0), some (.int a1), some (.ref (10 + (7 + p5)))]) (st' := [.ref (10 + (7 + p5)), .int (gF (Γ 10) (7 + p5) 2), .ref 10]) (pc' := 38) hk (.aload_n 2) 1 rfl rfl rfl rfl ?_
      refine ev_gf (.int (gF (Γ 10) (7 + p5) 3)) 41 hk rfl rfl (lk_spot isG_10 hpp5 rfl) rfl rfl ?_
      obtain ⟨v6, hc7, hx⟩ := bnd_some hx
      refine ev_cv 235 2 [.int v6] 44 hk rfl rfl rfl rfl (lk_globe isG_10 rfl) rfl rfl rfl (ev_gs2 (rG_localDay isG_10 hc7)) rfl rfl rfl rfl ?_
      cases hx
      obtain rfl := hM
      exact ev_retI hk rfl rfl
    · refine ev_ls (L' := [some (.ref 0), some (.int a1), some (.ref (10 + (7 + p5)))]) (st' := [.ref (10 + (7 + p5))]) (pc' := 23) hk (.aload_n 2) 1 rfl rfl rfl rfl ?_
      refine ev_gf (.int (gF (Γ 10) (7 + p5) 4)) 26 hk rfl rfl (lk_spot isG_10 hpp5 rfl) rfl rfl ?_
      refine ev_jp (pc' := 44) (st' := [.int (gF (Γ 10) (7 + p5) 4)]) hk (.goto 18) 3 rfl rfl rfl rfl rfl ?_
      cases hx
      obtain rfl := hM
      exact ev_retI hk rfl rfl
  · skip
    cases hx
    obtain rfl := hM
    exact ev_cvX 344 1 hk rfl rfl rfl rfl lk_dh rfl rfl rfl rfl (rX_needSpot hc2) rfl rfl
set_option maxRecDepth 2000 in
theorem rw_dayOf {S : Nat} {xs : Nat → Int32} {I : zI} {C : zC} {Y : Nat → Int32} {Γ : Nat → zG} {D : zD} {O : Nat → Int32} {M : zM} {ou : Nat → Int64} {od : Nat → UInt64} {j : Nat} {a1 : Int32} {X : Int32 × (Nat → Int64) × Nat}   (hx : fw_dayOf Γ ou j a1 = some X) : Ev S xs 375 0 [some (.ref 0), some (.int a1), some (.ref 261), none] [] (zH I C Y Γ D O M ou od j) (((.inl (some (.int X.1))), (zH I C Y Γ D O M X.2.1 od X.2.2)) : (Option Value ⊕ String) × px_H) := by
  generalize hM : (((.inl (some (.int X.1))), (zH I C Y Γ D O M X.2.1 od X.2.2)) : (Option Value ⊕ String) × px_H) = y
  replace hM := hM.symm
  have hk : pt_mt[375]? = some pt_r375 := rfl
  unfold fw_dayOf at hx
  refine ev_ls (L' := [some (.ref 0), some (.int a1), some (.ref 261), none]) (st' := [.ref 261]) (pc' := 1) hk (.aload_n 2) 1 rfl rfl rfl rfl ?_
  refine ev_op (st' := [.int 0, .ref 261]) (pc' := 2) hk (.iconst 0) 1 rfl rfl rfl ?_
  refine ev_ls (L' := [some (.ref 0), some (.int a1), some (.ref 261), none]) (st' := [.ref 0, .int 0, .ref 261]) (pc' := 3) hk (.aload_n 0) 1 rfl rfl rfl rfl ?_
  refine ev_ls (L' := [some (.ref 0), some (.int a1), some (.ref 261), none]) (st' := [.int a1, .ref 0, .int 0, .ref 261]) (pc' := 4) hk (.iload_n 1) 1 rfl rfl rfl rfl ?_
  rcases bnx_some hx with ⟨v4, hc2, hx⟩ | ⟨E3, hc2, hx⟩
  · skip
    refine ev_cv 308 1 [.int v4, .int 0, .ref 261] 7 hk rfl rfl rfl rfl lk_dh rfl rfl rfl (rX_dayOf hc2) rfl rfl rfl rfl ?_
    refine ev_op (st' := [.long (Int32.toInt64 v4), .int 0, .ref 261]) (pc' := 8) hk (.i2l) 1 rfl rfl rfl ?_
    obtain ⟨ou5, hou5, hx⟩ := bnd_some hx
    have hou5 := Option.some.inj hou5
    refine ev_las (A := (vp_updL ou 0 (Int32.toInt64 v4))) rfl 9 hk rfl lk_ou (sa_ou hou5) rfl ?_
    refine ev_jp (pc' := 15) (st' := []) hk (.goto 6) 3 rfl rfl rfl rfl rfl ?_
    refine ev_op (st' := [.int 0]) (pc' := 16) hk (.iconst 0) 1 rfl rfl rfl ?_
    cases hx
    obtain rfl := hM
    exact ev_retI hk rfl rfl
  · skip
    rcases ite_or hx with ⟨hE, hx⟩ | ⟨hE, hx⟩
    · subst hE
      refine ev_cvC 308 1 13 hk rfl rfl rfl rfl lk_dh rfl rfl rfl (t := 12) (by decide +kernel) (L' := [some (.ref 0), some (.int a1), some (.ref 261), none]) rfl (rX_dayOf hc2) rfl rfl ?_
      refine ev_op (st' := [.int 1]) (pc' := 14) hk (.iconst 1) 1 rfl rfl rfl ?_
      cases hx
      obtain rfl := hM
      exact ev_retI hk rfl rfl
    cases hx
set_option maxRecDepth 2000 in
theorem rM_dayOf {S : Nat} {xs : Nat → Int32} {I : zI} {C : zC} {Y : Nat → Int32} {Γ : Nat → zG} {D : zD} {O : Nat → Int32} {M : zM} {ou : Nat → Int64} {od : Nat → UInt64} {j : Nat} {a1 : Int32} {X : Int32 × zM}   (hx : fM_dayOf M a1 = some X) : Ev S xs 44 0 [some (.ref 247), some (.int a1)] [] (zH I C Y Γ D O M ou od j) (((.inl (some (.int X.1))), (zH I C Y Γ D O X.2 ou od j)) : (Option Value ⊕ String) × px_H) := by
  generalize hM : (((.inl (some (.int X.1))), (zH I C Y Γ D O X.2 ou od j)) : (Option Value ⊕ String) × px_H) = y
  replace hM := hM.symm
  have hk : pt_mt[44]? = some pt_r44 := rfl
  unfold fM_dayOf at hx
  refine ev_ls (L' := [some (.ref 247), some (.int a1)]) (st' := [.ref 247]) (pc' := 1) hk (.aload_n 0) 1 rfl rfl rfl rfl ?_
  refine ev_ls (L' := [some (.ref 247), some (.int a1)]) (st' := [.ref 247, .ref 247]) (pc' := 2) hk (.aload_n 0) 1 rfl rfl rfl rfl ?_
  refine ev_ls (L' := [some (.ref 247), some (.int a1)]) (st' := [.int a1, .ref 247, .ref 247]) (pc' := 3) hk (.iload_n 1) 1 rfl rfl rfl rfl ?_
  refine ev_cv 92 1 [.int (b2i (fM_isSpot M a1)), .ref 247] 6 hk rfl rfl rfl rfl lk_model rfl rfl rfl (rM_isSpot rfl) rfl rfl rfl rfl ?_
  obtain ⟨v2, M1, hc3, hx⟩ := bnd2_some hx
  refine ev_cv 59 1 [.int (b2i v2)] 9 hk rfl rfl rfl rfl lk_model rfl rfl rfl (rM_goes hc3) rfl rfl rfl rfl ?_
  refine ev_d1 14 12 hk rfl rfl rfl rfl (px_bne hx (fun hc hx => ?_) (fun hc hx => ?_))
  · refine ev_ls (L' := [some (.ref 247), some (.int a1)]) (st' := [.ref 247]) (pc' := 15) hk (.aload_n 0) 1 rfl rfl rfl rfl ?_
    refine ev_ls (L' := [some (.ref 247), some (.int a1)]) (st' := [.int a1, .ref 247]) (pc' := 16) hk (.iload_n 1) 1 rfl rfl rfl rfl ?_
    obtain ⟨v4, hc5, hx⟩ := bnd_some hx
    refine ev_cv 187 1 [.int (b2i v4)] 19 hk rfl rfl rfl rfl lk_model rfl rfl rfl (rM_travels hc5) rfl rfl rfl rfl ?_
    refine ev_d1 31 22 hk rfl rfl rfl rfl (px_beq hx (fun hc hx => ?_) (fun hc hx => ?_))
    · refine ev_ls (L' := [some (.ref 247), some (.int a1)]) (st' := [.ref 247]) (pc' := 32) hk (.aload_n 0) 1 rfl rfl rfl rfl ?_
      refine ev_ls (L' := [some (.ref 247), some (.int a1)]) (st' := [.int a1, .ref 247]) (pc' := 33) hk (.iload_n 1) 1 rfl rfl rfl rfl ?_
      obtain ⟨v6, hc7, hx⟩ := bnd_some hx
      refine ev_cv 43 1 [.int v6] 36 hk rfl rfl rfl rfl lk_model rfl rfl rfl (rM_dayNow hc7) rfl rfl rfl rfl ?_
      cases hx
      obtain rfl := hM
      exact ev_retI hk rfl rfl
    · refine ev_ls (L' := [some (.ref 247), some (.int a1)]) (st' := [.ref 247]) (pc' := 23) hk (.aload_n 0) 1 rfl rfl rfl rfl ?_
      refine ev_ls (L' := [some (.ref 247), some (.int a1)]) (st' := [.int a1, .ref 247]) (pc' := 24) hk (.iload_n 1) 1 rfl rfl rfl rfl ?_
      refine ev_op (st' := [.int 5, .int a1, .ref 247]) (pc' := 25) hk (.iconst 5) 1 rfl rfl rfl ?_
      obtain ⟨v8, hc9, hx⟩ := bnd_some hx
      refine ev_cv 145 2 [.int v8] 28 hk rfl rfl rfl rfl lk_model rfl rfl rfl (rM_of hc9) rfl rfl rfl rfl ?_
      refine ev_jp (pc' := 36) (st' := [.int v8]) hk (.goto 8) 3 rfl rfl rfl rfl rfl ?_
      cases hx
      obtain rfl := hM
      exact ev_retI hk rfl rfl
  · refine ev_op (st' := [.int 0]) (pc' := 13) hk (.iconst 0) 1 rfl rfl rfl ?_
    cases hx
    obtain rfl := hM
    exact ev_retI hk rfl rfl
set_option maxRecDepth 2000 in
theorem rX_meridianOf {S : Nat} {xs : Nat → Int32} {I : zI} {C : zC} {Y : Nat → Int32} {Γ : Nat → zG} {D : zD} {O : Nat → Int32} {M : zM} {ou : Nat → Int64} {od : Nat → UInt64} {j : Nat} {a1 : Int32} {X : (Int32 ⊕ String)}   (hx : fX_meridianOf Γ a1 = some X) : Ev S xs 336 0 [some (.ref 0), some (.int a1)] [] (zH I C Y Γ D O M ou od j) (Sum.elim (fun v => ((.inl (some (.int v))), (zH I C Y Γ D O M ou od j))) (fun E => (.inr E, (zH I C Y Γ D O M ou od (j + 1)))) X : (Option Value ⊕ String) × px_H) := by
  generalize hM : (Sum.elim (fun v => ((.inl (some (.int v))), (zH I C Y Γ D O M ou od j))) (fun E => (.inr E, (zH I C Y Γ D O M ou od (j + 1)))) X : (Option Value ⊕ String) × px_H) = y
  replace hM := hM.symm
  have hk : pt_mt[336]? = some pt_r336 := rfl
  unfold fX_meridianOf at hx
  refine ev_ls (L' := [some (.ref 0), some (.int a1)]) (st' := [.ref 0]) (pc' := 1) hk (.aload_n 0) 1 rfl rfl rfl rfl ?_
  refine ev_ls (L' := [some (.ref 0), some (.int a1)]) (st' := [.int a1, .ref 0]) (pc' := 2) hk (.iload_n 1) 1 rfl rfl rfl rfl ?_
  rcases bnx_some hx with ⟨⟨⟩, hc2, hx⟩ | ⟨E3, hc2, hx⟩
  · skip
    refine ev_cv 344 1 [] 5 hk rfl rfl rfl rfl lk_dh rfl rfl rfl (rX_needSpot hc2) rfl rfl rfl rfl ?_
    refine ev_ls (L' := [some (.ref 0), some (.int a1)]) (st' := [.ref 0]) (pc' := 6) hk (.aload_n 0) 1 rfl rfl rfl rfl ?_
    refine ev_gf (.ref 10) 9 hk rfl rfl lk_dh rfl rfl ?_
    refine ev_gf (.ref (10 + 6)) 12 hk rfl rfl (lk_globe isG_10 rfl) rfl rfl ?_
    refine ev_ls (L' := [some (.ref 0), some (.int a1)]) (st' := [.int a1, .ref (10 + 6)]) (pc' := 13) hk (.iload_n 1) 1 rfl rfl rfl rfl ?_
    obtain ⟨p5, hp5, hx⟩ := bnd_some hx
    have hpp5 := rix_lt hp5
    refine ev_aal (10 + (7 + p5)) hp5 14 hk rfl (lk_spots isG_10 rfl) (by decide) (lk_sp hpp5) rfl ?_
    refine ev_gf (.int (gF (Γ 10) (7 + p5) 3)) 17 hk rfl rfl (lk_spot isG_10 hpp5 rfl) rfl rfl ?_
    cases hx
    obtain rfl := hM
    exact ev_retI hk rfl rfl
  · skip
    cases hx
    obtain rfl := hM
    exact ev_cvX 344 1 hk rfl rfl rfl rfl lk_dh rfl rfl rfl rfl (rX_needSpot hc2) rfl rfl
set_option maxRecDepth 2000 in
theorem rw_meridianOf {S : Nat} {xs : Nat → Int32} {I : zI} {C : zC} {Y : Nat → Int32} {Γ : Nat → zG} {D : zD} {O : Nat → Int32} {M : zM} {ou : Nat → Int64} {od : Nat → UInt64} {j : Nat} {a1 : Int32} {X : Int32 × (Nat → Int64) × Nat}   (hx : fw_meridianOf Γ ou j a1 = some X) : Ev S xs 393 0 [some (.ref 0), some (.int a1), some (.ref 261), none] [] (zH I C Y Γ D O M ou od j) (((.inl (some (.int X.1))), (zH I C Y Γ D O M X.2.1 od X.2.2)) : (Option Value ⊕ String) × px_H) := by
  generalize hM : (((.inl (some (.int X.1))), (zH I C Y Γ D O M X.2.1 od X.2.2)) : (Option Value ⊕ String) × px_H) = y
  replace hM := hM.symm
  have hk : pt_mt[393]? = some pt_r393 := rfl
  unfold fw_meridianOf at hx
  refine ev_ls (L' := [some (.ref 0), some (.int a1), some (.ref 261), none]) (st' := [.ref 261]) (pc' := 1) hk (.aload_n 2) 1 rfl rfl rfl rfl ?_
  refine ev_op (st' := [.int 0, .ref 261]) (pc' := 2) hk (.iconst 0) 1 rfl rfl rfl ?_
  refine ev_ls (L' := [some (.ref 0), some (.int a1), some (.ref 261), none]) (st' := [.ref 0, .int 0, .ref 261]) (pc' := 3) hk (.aload_n 0) 1 rfl rfl rfl rfl ?_
  refine ev_ls (L' := [some (.ref 0), some (.int a1), some (.ref 261), none]) (st' := [.int a1, .ref 0, .int 0, .ref 261]) (pc' := 4) hk (.iload_n 1) 1 rfl rfl rfl rfl ?_
  rcases bnx_some hx with ⟨v4, hc2, hx⟩ | ⟨E3, hc2, hx⟩
  · skip
    refine ev_cv 336 1 [.int v4, .int 0, .ref 261] 7 hk rfl rfl rfl rfl lk_dh rfl rfl rfl (rX_meridianOf hc2) rfl rfl rfl rfl ?_
    refine ev_op (st' := [.long (Int32.toInt64 v4), .int 0, .ref 261]) (pc' := 8) hk (.i2l) 1 rfl rfl rfl ?_
    obtain ⟨ou5, hou5, hx⟩ := bnd_some hx
    have hou5 := Option.some.inj hou5
    refine ev_las (A := (vp_updL ou 0 (Int32.toInt64 v4))) rfl 9 hk rfl lk_ou (sa_ou hou5) rfl ?_
    refine ev_jp (pc' := 15) (st' := []) hk (.goto 6) 3 rfl rfl rfl rfl rfl ?_
    refine ev_op (st' := [.int 0]) (pc' := 16) hk (.iconst 0) 1 rfl rfl rfl ?_
    cases hx
    obtain rfl := hM
    exact ev_retI hk rfl rfl
  · skip
    rcases ite_or hx with ⟨hE, hx⟩ | ⟨hE, hx⟩
    · subst hE
      refine ev_cvC 336 1 13 hk rfl rfl rfl rfl lk_dh rfl rfl rfl (t := 12) (by decide +kernel) (L' := [some (.ref 0), some (.int a1), some (.ref 261), none]) rfl (rX_meridianOf hc2) rfl rfl ?_
      refine ev_op (st' := [.int 1]) (pc' := 14) hk (.iconst 1) 1 rfl rfl rfl ?_
      cases hx
      obtain rfl := hM
      exact ev_retI hk rfl rfl
    cases hx
set_option maxRecDepth 2000 in
theorem rM_meridianOf {S : Nat} {xs : Nat → Int32} {I : zI} {C : zC} {Y : Nat → Int32} {Γ : Nat → zG} {D : zD} {O : Nat → Int32} {M : zM} {ou : Nat → Int64} {od : Nat → UInt64} {j : Nat} {a1 : Int32} {X : Int32 × zM}   (hx : fM_meridianOf M a1 = some X) : Ev S xs 135 0 [some (.ref 247), some (.int a1)] [] (zH I C Y Γ D O M ou od j) (((.inl (some (.int X.1))), (zH I C Y Γ D O X.2 ou od j)) : (Option Value ⊕ String) × px_H) := by
  generalize hM : (((.inl (some (.int X.1))), (zH I C Y Γ D O X.2 ou od j)) : (Option Value ⊕ String) × px_H) = y
  replace hM := hM.symm
  have hk : pt_mt[135]? = some pt_r135 := rfl
  unfold fM_meridianOf at hx
  refine ev_ls (L' := [some (.ref 247), some (.int a1)]) (st' := [.ref 247]) (pc' := 1) hk (.aload_n 0) 1 rfl rfl rfl rfl ?_
  refine ev_ls (L' := [some (.ref 247), some (.int a1)]) (st' := [.int a1, .ref 247]) (pc' := 2) hk (.iload_n 1) 1 rfl rfl rfl rfl ?_
  refine ev_op (st' := [.int 4, .int a1, .ref 247]) (pc' := 3) hk (.iconst 4) 1 rfl rfl rfl ?_
  obtain ⟨v2, M1, hc3, hx⟩ := bnd2_some hx
  refine ev_cv 77 2 [.int v2] 6 hk rfl rfl rfl rfl lk_model rfl rfl rfl (rM_inSpot hc3) rfl rfl rfl rfl ?_
  cases hx
  obtain rfl := hM
  exact ev_retI hk rfl rfl
set_option maxRecDepth 2000 in
theorem rX_bandOf {S : Nat} {xs : Nat → Int32} {I : zI} {C : zC} {Y : Nat → Int32} {Γ : Nat → zG} {D : zD} {O : Nat → Int32} {M : zM} {ou : Nat → Int64} {od : Nat → UInt64} {j : Nat} {a1 : Int32} {X : (Int32 ⊕ String)}   (hx : fX_bandOf Γ a1 = some X) : Ev S xs 303 0 [some (.ref 0), some (.int a1)] [] (zH I C Y Γ D O M ou od j) (Sum.elim (fun v => ((.inl (some (.int v))), (zH I C Y Γ D O M ou od j))) (fun E => (.inr E, (zH I C Y Γ D O M ou od (j + 1)))) X : (Option Value ⊕ String) × px_H) := by
  generalize hM : (Sum.elim (fun v => ((.inl (some (.int v))), (zH I C Y Γ D O M ou od j))) (fun E => (.inr E, (zH I C Y Γ D O M ou od (j + 1)))) X : (Option Value ⊕ String) × px_H) = y
  replace hM := hM.symm
  have hk : pt_mt[303]? = some pt_r303 := rfl
  unfold fX_bandOf at hx
  refine ev_ls (L' := [some (.ref 0), some (.int a1)]) (st' := [.ref 0]) (pc' := 1) hk (.aload_n 0) 1 rfl rfl rfl rfl ?_
  refine ev_ls (L' := [some (.ref 0), some (.int a1)]) (st' := [.int a1, .ref 0]) (pc' := 2) hk (.iload_n 1) 1 rfl rfl rfl rfl ?_
  rcases bnx_some hx with ⟨⟨⟩, hc2, hx⟩ | ⟨E3, hc2, hx⟩
  · skip
    refine ev_cv 344 1 [] 5 hk rfl rfl rfl rfl lk_dh rfl rfl rfl (rX_needSpot hc2) rfl rfl rfl rfl ?_
    refine ev_ls (L' := [some (.ref 0), some (.int a1)]) (st' := [.ref 0]) (pc' := 6) hk (.aload_n 0) 1 rfl rfl rfl rfl ?_
    refine ev_gf (.ref 10) 9 hk rfl rfl lk_dh rfl rfl ?_
    refine ev_gf (.ref (10 + 6)) 12 hk rfl rfl (lk_globe isG_10 rfl) rfl rfl ?_
    refine ev_ls (L' := [some (.ref 0), some (.int a1)]) (st' := [.int a1, .ref (10 + 6)]) (pc' := 13) hk (.iload_n 1) 1 rfl rfl rfl rfl ?_
    obtain ⟨p5, hp5, hx⟩ := bnd_some hx
    have hpp5 := rix_lt hp5
    refine ev_aal (10 + (7 + p5)) hp5 14 hk rfl (lk_spots isG_10 rfl) (by decide) (lk_sp hpp5) rfl ?_
    refine ev_gf (.int (gF (Γ 10) (7 + p5) 2)) 17 hk rfl rfl (lk_spot isG_10 hpp5 rfl) rfl rfl ?_
    cases hx
    obtain rfl := hM
    exact ev_retI hk rfl rfl
  · skip
    cases hx
    obtain rfl := hM
    exact ev_cvX 344 1 hk rfl rfl rfl rfl lk_dh rfl rfl rfl rfl (rX_needSpot hc2) rfl rfl
set_option maxRecDepth 2000 in
theorem rw_bandOf {S : Nat} {xs : Nat → Int32} {I : zI} {C : zC} {Y : Nat → Int32} {Γ : Nat → zG} {D : zD} {O : Nat → Int32} {M : zM} {ou : Nat → Int64} {od : Nat → UInt64} {j : Nat} {a1 : Int32} {X : Int32 × (Nat → Int64) × Nat}   (hx : fw_bandOf Γ ou j a1 = some X) : Ev S xs 371 0 [some (.ref 0), some (.int a1), some (.ref 261), none] [] (zH I C Y Γ D O M ou od j) (((.inl (some (.int X.1))), (zH I C Y Γ D O M X.2.1 od X.2.2)) : (Option Value ⊕ String) × px_H) := by
  generalize hM : (((.inl (some (.int X.1))), (zH I C Y Γ D O M X.2.1 od X.2.2)) : (Option Value ⊕ String) × px_H) = y
  replace hM := hM.symm
  have hk : pt_mt[371]? = some pt_r371 := rfl
  unfold fw_bandOf at hx
  refine ev_ls (L' := [some (.ref 0), some (.int a1), some (.ref 261), none]) (st' := [.ref 261]) (pc' := 1) hk (.aload_n 2) 1 rfl rfl rfl rfl ?_
  refine ev_op (st' := [.int 0, .ref 261]) (pc' := 2) hk (.iconst 0) 1 rfl rfl rfl ?_
  refine ev_ls (L' := [some (.ref 0), some (.int a1), some (.ref 261), none]) (st' := [.ref 0, .int 0, .ref 261]) (pc' := 3) hk (.aload_n 0) 1 rfl rfl rfl rfl ?_
  refine ev_ls (L' := [some (.ref 0), some (.int a1), some (.ref 261), none]) (st' := [.int a1, .ref 0, .int 0, .ref 261]) (pc' := 4) hk (.iload_n 1) 1 rfl rfl rfl rfl ?_
  rcases bnx_some hx with ⟨v4, hc2, hx⟩ | ⟨E3, hc2, hx⟩
  · skip
    refine ev_cv 303 1 [.int v4, .int 0, .ref 261] 7 hk rfl rfl rfl rfl lk_dh rfl rfl rfl (rX_bandOf hc2) rfl rfl rfl rfl ?_
    refine ev_op (st' := [.long (Int32.toInt64 v4), .int 0, .ref 261]) (pc' := 8) hk (.i2l) 1 rfl rfl rfl ?_
    obtain ⟨ou5, hou5, hx⟩ := bnd_some hx
    have hou5 := Option.some.inj hou5
    refine ev_las (A := (vp_updL ou 0 (Int32.toInt64 v4))) rfl 9 hk rfl lk_ou (sa_ou hou5) rfl ?_
    refine ev_jp (pc' := 15) (st' := []) hk (.goto 6) 3 rfl rfl rfl rfl rfl ?_
    refine ev_op (st' := [.int 0]) (pc' := 16) hk (.iconst 0) 1 rfl rfl rfl ?_
    cases hx
    obtain rfl := hM
    exact ev_retI hk rfl rfl
  · skip
    rcases ite_or hx with ⟨hE, hx⟩ | ⟨hE, hx⟩
    · subst hE
      refine ev_cvC 303 1 13 hk rfl rfl rfl rfl lk_dh rfl rfl rfl (t := 12) (by decide +kernel) (L' := [some (.ref 0), some (.int a1), some (.ref 261), none]) rfl (rX_bandOf hc2) rfl rfl ?_
      refine ev_op (st' := [.int 1]) (pc' := 14) hk (.iconst 1) 1 rfl rfl rfl ?_
      cases hx
      obtain rfl := hM
      exact ev_retI hk rfl rfl
    cases hx
set_option maxRecDepth 2000 in
theorem rM_bandOf {S : Nat} {xs : Nat → Int32} {I : zI} {C : zC} {Y : Nat → Int32} {Γ : Nat → zG} {D : zD} {O : Nat → Int32} {M : zM} {ou : Nat → Int64} {od : Nat → UInt64} {j : Nat} {a1 : Int32} {X : Int32 × zM}   (hx : fM_bandOf M a1 = some X) : Ev S xs 25 0 [some (.ref 247), some (.int a1)] [] (zH I C Y Γ D O M ou od j) (((.inl (some (.int X.1))), (zH I C Y Γ D O X.2 ou od j)) : (Option Value ⊕ String) × px_H) := by
  generalize hM : (((.inl (some (.int X.1))), (zH I C Y Γ D O X.2 ou od j)) : (Option Value ⊕ String) × px_H) = y
  replace hM := hM.symm
  have hk : pt_mt[25]? = some pt_r25 := rfl
  unfold fM_bandOf at hx
  refine ev_ls (L' := [some (.ref 247), some (.int a1)]) (st' := [.ref 247]) (pc' := 1) hk (.aload_n 0) 1 rfl rfl rfl rfl ?_
  refine ev_ls (L' := [some (.ref 247), some (.int a1)]) (st' := [.int a1, .ref 247]) (pc' := 2) hk (.iload_n 1) 1 rfl rfl rfl rfl ?_
  refine ev_op (st' := [.int 3, .int a1, .ref 247]) (pc' := 3) hk (.iconst 3) 1 rfl rfl rfl ?_
  obtain ⟨v2, M1, hc3, hx⟩ := bnd2_some hx
  refine ev_cv 77 2 [.int v2] 6 hk rfl rfl rfl rfl lk_model rfl rfl rfl (rM_inSpot hc3) rfl rfl rfl rfl ?_
  cases hx
  obtain rfl := hM
  exact ev_retI hk rfl rfl
set_option maxRecDepth 2000 in
theorem rX_isTraveller {S : Nat} {xs : Nat → Int32} {I : zI} {C : zC} {Y : Nat → Int32} {Γ : Nat → zG} {D : zD} {O : Nat → Int32} {M : zM} {ou : Nat → Int64} {od : Nat → UInt64} {j : Nat} {a1 : Int32} {X : (Bool ⊕ String)}   (hx : fX_isTraveller Γ a1 = some X) : Ev S xs 325 0 [some (.ref 0), some (.int a1)] [] (zH I C Y Γ D O M ou od j) (Sum.elim (fun v => ((.inl (some (.int (b2i v)))), (zH I C Y Γ D O M ou od j))) (fun E => (.inr E, (zH I C Y Γ D O M ou od (j + 1)))) X : (Option Value ⊕ String) × px_H) := by
  generalize hM : (Sum.elim (fun v => ((.inl (some (.int (b2i v)))), (zH I C Y Γ D O M ou od j))) (fun E => (.inr E, (zH I C Y Γ D O M ou od (j + 1)))) X : (Option Value ⊕ String) × px_H) = y
  replace hM := hM.symm
  have hk : pt_mt[325]? = some pt_r325 := rfl
  unfold fX_isTraveller at hx
  refine ev_ls (L' := [some (.ref 0), some (.int a1)]) (st' := [.ref 0]) (pc' := 1) hk (.aload_n 0) 1 rfl rfl rfl rfl ?_
  refine ev_ls (L' := [some (.ref 0), some (.int a1)]) (st' := [.int a1, .ref 0]) (pc' := 2) hk (.iload_n 1) 1 rfl rfl rfl rfl ?_
  rcases bnx_some hx with ⟨⟨⟩, hc2, hx⟩ | ⟨E3, hc2, hx⟩
  · skip
    refine ev_cv 344 1 [] 5 hk rfl rfl rfl rfl lk_dh rfl rfl rfl (rX_needSpot hc2) rfl rfl rfl rfl ?_
    refine ev_ls (L' := [some (.ref 0), some (.int a1)]) (st' := [.ref 0]) (pc' := 6) hk (.aload_n 0) 1 rfl rfl rfl rfl ?_
    refine ev_gf (.ref 10) 9 hk rfl rfl lk_dh rfl rfl ?_
    refine ev_gf (.ref (10 + 6)) 12 hk rfl rfl (lk_globe isG_10 rfl) rfl rfl ?_
    refine ev_ls (L' := [some (.ref 0), some (.int a1)]) (st' := [.int a1, .ref (10 + 6)]) (pc' := 13) hk (.iload_n 1) 1 rfl rfl rfl rfl ?_
    obtain ⟨p5, hp5, hx⟩ := bnd_some hx
    have hpp5 := rix_lt hp5
    refine ev_aal (10 + (7 + p5)) hp5 14 hk rfl (lk_spots isG_10 rfl) (by decide) (lk_sp hpp5) rfl ?_
    refine ev_gf (.int (b2i (gB (Γ 10) (7 + p5)))) 17 hk rfl rfl (lk_spot isG_10 hpp5 rfl) rfl rfl ?_
    cases hx
    obtain rfl := hM
    exact ev_retZ _ rfl hk rfl rfl
  · skip
    cases hx
    obtain rfl := hM
    exact ev_cvX 344 1 hk rfl rfl rfl rfl lk_dh rfl rfl rfl rfl (rX_needSpot hc2) rfl rfl
set_option maxRecDepth 4000 in
theorem rw_isTraveller_j15 {S : Nat} {xs : Nat → Int32} {I : zI} {C : zC} {Y : Nat → Int32} {Γ : Nat → zG} {D : zD} {O : Nat → Int32} {M : zM} {ou : Nat → Int64} {od : Nat → UInt64} {j : Nat} {a0t : Int64} {y : (Option Value ⊕ String) × px_H} {x : Int32 × (Nat → Int64) × Nat}  (hx : fw_isTraveller_j15 Γ ou j a0t = some x) (hM : (fun X : Int32 × (Nat → Int64) × Nat => y = (((.inl (some (.int X.1))), (zH I C Y Γ D O M X.2.1 od X.2.2)) : (Option Value ⊕ String) × px_H)) x) (u0 : Option Value) (hu0 : px_cz u0 = true) (u1 : Option Value) (hu1 : px_cz u1 = true) (u2 : Option Value) (hu2 : px_cz u2 = true) : Ev S xs 384 15 [u0, u1, u2, none] [.long a0t, .int 0, .ref 261] (zH I C Y Γ D O M ou od j) y := by
  have hk : pt_mt[384]? = some pt_r384 := rfl
  unfold fw_isTraveller_j15 at hx
  obtain ⟨ou3, hou3, hx⟩ := bnd_some hx
  have hou3 := Option.some.inj hou3
  refine ev_las (A := (vp_updL ou 0 a0t)) rfl 16 hk rfl lk_ou (sa_ou hou3) rfl ?_
  refine ev_jp (pc' := 22) (st' := []) hk (.goto 6) 3 rfl rfl rfl rfl rfl ?_
  refine ev_op (st' := [.int 0]) (pc' := 23) hk (.iconst 0) 1 rfl rfl rfl ?_
  cases hx
  obtain rfl := hM
  exact ev_retI hk rfl rfl
set_option maxRecDepth 2000 in
theorem rw_isTraveller {S : Nat} {xs : Nat → Int32} {I : zI} {C : zC} {Y : Nat → Int32} {Γ : Nat → zG} {D : zD} {O : Nat → Int32} {M : zM} {ou : Nat → Int64} {od : Nat → UInt64} {j : Nat} {a1 : Int32} {X : Int32 × (Nat → Int64) × Nat}   (hx : fw_isTraveller Γ ou j a1 = some X) : Ev S xs 384 0 [some (.ref 0), some (.int a1), some (.ref 261), none] [] (zH I C Y Γ D O M ou od j) (((.inl (some (.int X.1))), (zH I C Y Γ D O M X.2.1 od X.2.2)) : (Option Value ⊕ String) × px_H) := by
  generalize hM : (((.inl (some (.int X.1))), (zH I C Y Γ D O M X.2.1 od X.2.2)) : (Option Value ⊕ String) × px_H) = y
  replace hM := hM.symm
  have hk : pt_mt[384]? = some pt_r384 := rfl
  unfold fw_isTraveller at hx
  refine ev_ls (L' := [some (.ref 0), some (.int a1), some (.ref 261), none]) (st' := [.ref 261]) (pc' := 1) hk (.aload_n 2) 1 rfl rfl rfl rfl ?_
  refine ev_op (st' := [.int 0, .ref 261]) (pc' := 2) hk (.iconst 0) 1 rfl rfl rfl ?_
  refine ev_ls (L' := [some (.ref 0), some (.int a1), some (.ref 261), none]) (st' := [.ref 0, .int 0, .ref 261]) (pc' := 3) hk (.aload_n 0) 1 rfl rfl rfl rfl ?_
  refine ev_ls (L' := [some (.ref 0), some (.int a1), some (.ref 261), none]) (st' := [.int a1, .ref 0, .int 0, .ref 261]) (pc' := 4) hk (.iload_n 1) 1 rfl rfl rfl rfl ?_
  rcases bnx_some hx with ⟨v6, hc4, hx⟩ | ⟨E5, hc4, hx⟩
  · skip
    refine ev_cv 325 1 [.int (b2i v6), .int 0, .ref 261] 7 hk rfl rfl rfl rfl lk_dh rfl rfl rfl (rX_isTraveller hc4) rfl rfl rfl rfl ?_
    refine ev_d1 14 10 hk rfl rfl rfl rfl (px_beq hx (fun hc hx => ?_) (fun hc hx => ?_))
    · refine ev_op (st' := [.long 0, .int 0, .ref 261]) (pc' := 15) hk (.lconst 0) 1 rfl rfl rfl ?_
      exact rw_isTraveller_j15 hx hM (some (.ref 0)) rfl (some (.int a1)) rfl (some (.ref 261)) rfl
    · refine ev_op (st' := [.long 1, .int 0, .ref 261]) (pc' := 11) hk (.lconst 1) 1 rfl rfl rfl ?_
      refine ev_jp (pc' := 15) (st' := [.long 1, .int 0, .ref 261]) hk (.goto 4) 3 rfl rfl rfl rfl rfl ?_
      exact rw_isTraveller_j15 hx hM (some (.ref 0)) rfl (some (.int a1)) rfl (some (.ref 261)) rfl
  · skip
    rcases ite_or hx with ⟨hE, hx⟩ | ⟨hE, hx⟩
    · subst hE
      refine ev_cvC 325 1 20 hk rfl rfl rfl rfl lk_dh rfl rfl rfl (t := 19) (by decide +kernel) (L' := [some (.ref 0), some (.int a1), some (.ref 261), none]) rfl (rX_isTraveller hc4) rfl rfl ?_
      refine ev_op (st' := [.int 1]) (pc' := 21) hk (.iconst 1) 1 rfl rfl rfl ?_
      cases hx
      obtain rfl := hM
      exact ev_retI hk rfl rfl
    cases hx
set_option maxRecDepth 2000 in
theorem rM_isTraveller {S : Nat} {xs : Nat → Int32} {I : zI} {C : zC} {Y : Nat → Int32} {Γ : Nat → zG} {D : zD} {O : Nat → Int32} {M : zM} {ou : Nat → Int64} {od : Nat → UInt64} {j : Nat} {a1 : Int32} {X : Bool × zM}   (hx : fM_isTraveller M a1 = some X) : Ev S xs 99 0 [some (.ref 247), some (.int a1)] [] (zH I C Y Γ D O M ou od j) (((.inl (some (.int (b2i X.1)))), (zH I C Y Γ D O X.2 ou od j)) : (Option Value ⊕ String) × px_H) := by
  generalize hM : (((.inl (some (.int (b2i X.1)))), (zH I C Y Γ D O X.2 ou od j)) : (Option Value ⊕ String) × px_H) = y
  replace hM := hM.symm
  have hk : pt_mt[99]? = some pt_r99 := rfl
  unfold fM_isTraveller at hx
  refine ev_ls (L' := [some (.ref 247), some (.int a1)]) (st' := [.ref 247]) (pc' := 1) hk (.aload_n 0) 1 rfl rfl rfl rfl ?_
  refine ev_ls (L' := [some (.ref 247), some (.int a1)]) (st' := [.ref 247, .ref 247]) (pc' := 2) hk (.aload_n 0) 1 rfl rfl rfl rfl ?_
  refine ev_ls (L' := [some (.ref 247), some (.int a1)]) (st' := [.int a1, .ref 247, .ref 247]) (pc' := 3) hk (.iload_n 1) 1 rfl rfl rfl rfl ?_
  refine ev_cv 92 1 [.int (b2i (fM_isSpot M a1)), .ref 247] 6 hk rfl rfl rfl rfl lk_model rfl rfl rfl (rM_isSpot rfl) rfl rfl rfl rfl ?_
  obtain ⟨v2, M1, hc3, hx⟩ := bnd2_some hx
  refine ev_cv 59 1 [.int (b2i v2)] 9 hk rfl rfl rfl rfl lk_model rfl rfl rfl (rM_goes hc3) rfl rfl rfl rfl ?_
  refine ev_d1 24 12 hk rfl rfl rfl rfl (px_beq hx (fun hc hx => ?_) (fun hc hx => ?_))
  · refine ev_op (st' := [.int 0]) (pc' := 25) hk (.iconst 0) 1 rfl rfl rfl ?_
    cases hx
    obtain rfl := hM
    exact ev_retZ false rfl hk rfl rfl
  · refine ev_ls (L' := [some (.ref 247), some (.int a1)]) (st' := [.ref 247]) (pc' := 13) hk (.aload_n 0) 1 rfl rfl rfl rfl ?_
    refine ev_ls (L' := [some (.ref 247), some (.int a1)]) (st' := [.int a1, .ref 247]) (pc' := 14) hk (.iload_n 1) 1 rfl rfl rfl rfl ?_
    obtain ⟨v4, hc5, hx⟩ := bnd_some hx
    refine ev_cv 187 1 [.int (b2i v4)] 17 hk rfl rfl rfl rfl lk_model rfl rfl rfl (rM_travels hc5) rfl rfl rfl rfl ?_
    refine ev_d1 24 20 hk rfl rfl rfl rfl (px_beq hx (fun hc hx => ?_) (fun hc hx => ?_))
    · refine ev_op (st' := [.int 0]) (pc' := 25) hk (.iconst 0) 1 rfl rfl rfl ?_
      cases hx
      obtain rfl := hM
      exact ev_retZ false rfl hk rfl rfl
    · refine ev_op (st' := [.int 1]) (pc' := 21) hk (.iconst 1) 1 rfl rfl rfl ?_
      refine ev_jp (pc' := 25) (st' := [.int 1]) hk (.goto 4) 3 rfl rfl rfl rfl rfl ?_
      cases hx
      obtain rfl := hM
      exact ev_retZ true rfl hk rfl rfl
set_option maxRecDepth 2000 in
theorem rX_findSpot {S : Nat} {xs : Nat → Int32} {I : zI} {C : zC} {Y : Nat → Int32} {Γ : Nat → zG} {D : zD} {O : Nat → Int32} {M : zM} {ou : Nat → Int64} {od : Nat → UInt64} {j : Nat}  {X : Int32}   (hx : fX_findSpot I Γ = some X) : Ev S xs 313 0 [some (.ref 0)] [] (zH I C Y Γ D O M ou od j) (((.inl (some (.int X))), (zH I C Y Γ D O M ou od j)) : (Option Value ⊕ String) × px_H) := by
  generalize hM : (((.inl (some (.int X))), (zH I C Y Γ D O M ou od j)) : (Option Value ⊕ String) × px_H) = y
  replace hM := hM.symm
  have hk : pt_mt[313]? = some pt_r313 := rfl
  unfold fX_findSpot at hx
  refine ev_ls (L' := [some (.ref 0)]) (st' := [.ref 0]) (pc' := 1) hk (.aload_n 0) 1 rfl rfl rfl rfl ?_
  refine ev_gf (.ref 10) 4 hk rfl rfl lk_dh rfl rfl ?_
  refine ev_ls (L' := [some (.ref 0)]) (st' := [.ref 0, .ref 10]) (pc' := 5) hk (.aload_n 0) 1 rfl rfl rfl rfl ?_
  refine ev_gf (.ref 1) 8 hk rfl rfl lk_dh rfl rfl ?_
  obtain ⟨v1, hc2, hx⟩ := bnd_some hx
  refine ev_cv 278 0 [.long v1, .ref 10] 11 hk rfl rfl rfl rfl lk_input rfl rfl rfl (rI_wholeWord hc2) rfl rfl rfl rfl ?_
  obtain ⟨v3, hc4, hx⟩ := bnd_some hx
  refine ev_cv 249 1 [.int v3] 14 hk rfl rfl rfl rfl (lk_globe isG_10 rfl) rfl rfl rfl (ev_gs2 (rG_spotNamed isG_10 hc4)) rfl rfl rfl rfl ?_
  cases hx
  obtain rfl := hM
  exact ev_retI hk rfl rfl
set_option maxRecDepth 4000 in
theorem rM_findSpot_j21 {S : Nat} {xs : Nat → Int32} {I : zI} {C : zC} {Y : Nat → Int32} {Γ : Nat → zG} {D : zD} {O : Nat → Int32} {M : zM} {ou : Nat → Int64} {od : Nat → UInt64} {j : Nat} {a0t : Int32} {y : (Option Value ⊕ String) × px_H} {x : Int32 × zM}  (hx : fM_findSpot_j21 M a0t = some x) (hM : (fun X : Int32 × zM => y = (((.inl (some (.int X.1))), (zH I C Y Γ D O X.2 ou od j)) : (Option Value ⊕ String) × px_H)) x) (u0 : Option Value) (hu0 : px_cz u0 = true) (u1 : Option Value) : Ev S xs 54 21 [u0, u1, none] [.int a0t, .ref 247] (zH I C Y Γ D O M ou od j) y := by
  have hk : pt_mt[54]? = some pt_r54 := rfl
  unfold fM_findSpot_j21 at hx
  obtain ⟨v2, M1, hc3, hx⟩ := bnd2_some hx
  refine ev_cv 184 1 [.int v2] 24 hk rfl rfl rfl rfl lk_model rfl rfl rfl (rM_told hc3) rfl rfl rfl rfl ?_
  cases hx
  obtain rfl := hM
  exact ev_retI hk rfl rfl
set_option maxRecDepth 2000 in
theorem rM_findSpot {S : Nat} {xs : Nat → Int32} {I : zI} {C : zC} {Y : Nat → Int32} {Γ : Nat → zG} {D : zD} {O : Nat → Int32} {M : zM} {ou : Nat → Int64} {od : Nat → UInt64} {j : Nat}  {X : Int32 × zM}   (hx : fM_findSpot M = some X) : Ev S xs 54 0 [some (.ref 247), none, none] [] (zH I C Y Γ D O M ou od j) (((.inl (some (.int X.1))), (zH I C Y Γ D O X.2 ou od j)) : (Option Value ⊕ String) × px_H) := by
  generalize hM : (((.inl (some (.int X.1))), (zH I C Y Γ D O X.2 ou od j)) : (Option Value ⊕ String) × px_H) = y
  replace hM := hM.symm
  have hk : pt_mt[54]? = some pt_r54 := rfl
  unfold fM_findSpot at hx
  refine ev_ls (L' := [some (.ref 247), none, none]) (st' := [.ref 247]) (pc' := 1) hk (.aload_n 0) 1 rfl rfl rfl rfl ?_
  obtain ⟨v4, hc5, hx⟩ := bnd_some hx
  refine ev_cv 31 0 [.long v4] 4 hk rfl rfl rfl rfl lk_model rfl rfl rfl (rM_bufferName hc5) rfl rfl rfl rfl ?_
  refine ev_ls (L' := [some (.ref 247), some (.long v4), none]) (st' := []) (pc' := 5) hk (.lstore_n 1) 1 rfl rfl rfl rfl ?_
  refine ev_ls (L' := [some (.ref 247), some (.long v4), none]) (st' := [.ref 247]) (pc' := 6) hk (.aload_n 0) 1 rfl rfl rfl rfl ?_
  refine ev_ls (L' := [some (.ref 247), some (.long v4), none]) (st' := [.long v4, .ref 247]) (pc' := 7) hk (.lload_n 1) 1 rfl rfl rfl rfl ?_
  refine ev_op (st' := [.long 0, .long v4, .ref 247]) (pc' := 8) hk (.lconst 0) 1 rfl rfl rfl ?_
  refine ev_op (st' := [.int (lg_cmp v4 0), .ref 247]) (pc' := 9) hk (.lcmp) 1 rfl rfl rfl ?_
  refine ev_d1 16 12 hk rfl rfl rfl rfl (px_lne hx (fun hc hx => ?_) (fun hc hx => ?_))
  · refine ev_ls (L' := [some (.ref 247), some (.long v4), none]) (st' := [.ref 247, .ref 247]) (pc' := 17) hk (.aload_n 0) 1 rfl rfl rfl rfl ?_
    refine ev_ls (L' := [some (.ref 247), some (.long v4), none]) (st' := [.long v4, .ref 247, .ref 247]) (pc' := 18) hk (.lload_n 1) 1 rfl rfl rfl rfl ?_
    obtain ⟨v6, hc7, hx⟩ := bnd_some hx
    refine ev_cv 167 1 [.int v6, .ref 247] 21 hk rfl rfl rfl rfl lk_model rfl rfl rfl (rM_spotNamed hc7) rfl rfl rfl rfl ?_
    exact rM_findSpot_j21 hx hM (some (.ref 247)) rfl (some (.long v4))
  · refine ev_op (st' := [.int (-1), .ref 247]) (pc' := 13) hk (.iconst (-1)) 1 rfl rfl rfl ?_
    refine ev_jp (pc' := 21) (st' := [.int (-1), .ref 247]) hk (.goto 8) 3 rfl rfl rfl rfl rfl ?_
    exact rM_findSpot_j21 hx hM (some (.ref 247)) rfl (some (.long v4))
set_option maxRecDepth 2000 in
theorem rW_letterAt {S : Nat} {xs : Nat → Int32} {I : zI} {C : zC} {Y : Nat → Int32} {Γ : Nat → zG} {D : zD} {O : Nat → Int32} {M : zM} {ou : Nat → Int64} {od : Nat → UInt64} {j : Nat} {a0 : Int64} {a2 : Int32} {X : Int32}   (hx : fW_letterAt a0 a2 = some X) : Ev S xs 298 0 [some (.long a0), none, some (.int a2), none] [] (zH I C Y Γ D O M ou od j) (((.inl (some (.int X))), (zH I C Y Γ D O M ou od j)) : (Option Value ⊕ String) × px_H) := by
  generalize hM : (((.inl (some (.int X))), (zH I C Y Γ D O M ou od j)) : (Option Value ⊕ String) × px_H) = y
  replace hM := hM.symm
  have hk : pt_mt[298]? = some pt_r298 := rfl
  unfold fW_letterAt at hx
  refine ev_ls (L' := [some (.long a0), none, some (.int a2), none]) (st' := [.long a0]) (pc' := 1) hk (.lload_n 0) 1 rfl rfl rfl rfl ?_
  obtain ⟨v1, hc2, hx⟩ := bnd_some hx
  refine ev_cs 299 1 [.int v1] 4 hk rfl rfl (by decide) rfl rfl rfl (rW_letterCount hc2) rfl rfl rfl rfl ?_
  refine ev_ls (L' := [some (.long a0), none, some (.int a2), some (.int v1)]) (st' := []) (pc' := 5) hk (.istore_n 3) 1 rfl rfl rfl rfl ?_
  refine ev_ls (L' := [some (.long a0), none, some (.int a2), some (.int v1)]) (st' := [.int a2]) (pc' := 6) hk (.iload_n 2) 1 rfl rfl rfl rfl ?_
  refine ev_d1 14 9 hk rfl rfl rfl rfl (px_clt hx (fun hc hx => ?_) (fun hc hx => ?_))
  · refine ev_op (st' := [.int (-1)]) (pc' := 15) hk (.iconst (-1)) 1 rfl rfl rfl ?_
    cases hx
    obtain rfl := hM
    exact ev_retI hk rfl rfl
  · refine ev_ls (L' := [some (.long a0), none, some (.int a2), some (.int v1)]) (st' := [.int a2]) (pc' := 10) hk (.iload_n 2) 1 rfl rfl rfl rfl ?_
    refine ev_ls (L' := [some (.long a0), none, some (.int a2), some (.int v1)]) (st' := [.int v1, .int a2]) (pc' := 11) hk (.iload_n 3) 1 rfl rfl rfl rfl ?_
    refine ev_d2 16 14 hk rfl rfl rfl rfl (px_clt hx (fun hc hx => ?_) (fun hc hx => ?_))
    · refine ev_ls (L' := [some (.long a0), none, some (.int a2), some (.int v1)]) (st' := [.long a0]) (pc' := 17) hk (.lload_n 0) 1 rfl rfl rfl rfl ?_
      refine ev_op (st' := [.int 8, .long a0]) (pc' := 19) hk (.bipush 8) 2 rfl rfl rfl ?_
      refine ev_ls (L' := [some (.long a0), none, some (.int a2), some (.int v1)]) (st' := [.int v1, .int 8, .long a0]) (pc' := 20) hk (.iload_n 3) 1 rfl rfl rfl rfl ?_
      refine ev_op (st' := [.int 1, .int v1, .int 8, .long a0]) (pc' := 21) hk (.iconst 1) 1 rfl rfl rfl ?_
      refine ev_op (st' := [.int (v1 - 1), .int 8, .long a0]) (pc' := 22) hk (.isub) 1 rfl rfl rfl ?_
      refine ev_ls (L' := [some (.long a0), none, some (.int a2), some (.int v1)]) (st' := [.int a2, .int (v1 - 1), .int 8, .long a0]) (pc' := 23) hk (.iload_n 2) 1 rfl rfl rfl rfl ?_
      refine ev_op (st' := [.int ((v1 - 1) - a2), .int 8, .long a0]) (pc' := 24) hk (.isub) 1 rfl rfl rfl ?_
      refine ev_op (st' := [.int (8 * ((v1 - 1) - a2)), .long a0]) (pc' := 25) hk (.imul) 1 rfl rfl rfl ?_
      refine ev_op (st' := [.long (Int64.toUInt64 a0 >>> ((Int32.toInt64 (8 * ((v1 - 1) - a2))).toUInt64 &&& Int64.toUInt64 63)).toInt64]) (pc' := 26) hk (.lushr) 1 rfl rfl rfl ?_
      refine ev_op (st' := [.int (Int64.toInt32 (Int64.toUInt64 a0 >>> ((Int32.toInt64 (8 * ((v1 - 1) - a2))).toUInt64 &&& Int64.toUInt64 63)).toInt64)]) (pc' := 27) hk (.l2i) 1 rfl rfl rfl ?_
      refine ev_op (st' := [.int 255, .int (Int64.toInt32 (Int64.toUInt64 a0 >>> ((Int32.toInt64 (8 * ((v1 - 1) - a2))).toUInt64 &&& Int64.toUInt64 63)).toInt64)]) (pc' := 30) hk (.sipush 255) 3 rfl rfl rfl ?_
      refine ev_op (st' := [.int ((Int64.toInt32 (Int64.toUInt64 a0 >>> ((Int32.toInt64 (8 * ((v1 - 1) - a2))).toUInt64 &&& Int64.toUInt64 63)).toInt64) &&& 255)]) (pc' := 31) hk (.iand) 1 rfl rfl rfl ?_
      cases hx
      obtain rfl := hM
      exact ev_retI hk rfl rfl
    · refine ev_op (st' := [.int (-1)]) (pc' := 15) hk (.iconst (-1)) 1 rfl rfl rfl ?_
      cases hx
      obtain rfl := hM
      exact ev_retI hk rfl rfl
set_option maxRecDepth 2000 in
theorem rX_nameByte {S : Nat} {xs : Nat → Int32} {I : zI} {C : zC} {Y : Nat → Int32} {Γ : Nat → zG} {D : zD} {O : Nat → Int32} {M : zM} {ou : Nat → Int64} {od : Nat → UInt64} {j : Nat} {a1 : Int32} {a2 : Int32} {X : (Int32 ⊕ String)}   (hx : fX_nameByte Γ a1 a2 = some X) : Ev S xs 338 0 [some (.ref 0), some (.int a1), some (.int a2)] [] (zH I C Y Γ D O M ou od j) (Sum.elim (fun v => ((.inl (some (.int v))), (zH I C Y Γ D O M ou od j))) (fun E => (.inr E, (zH I C Y Γ D O M ou od (j + 1)))) X : (Option Value ⊕ String) × px_H) := by
  generalize hM : (Sum.elim (fun v => ((.inl (some (.int v))), (zH I C Y Γ D O M ou od j))) (fun E => (.inr E, (zH I C Y Γ D O M ou od (j + 1)))) X : (Option Value ⊕ String) × px_H) = y
  replace hM := hM.symm
  have hk : pt_mt[338]? = some pt_r338 := rfl
  unfold fX_nameByte at hx
  refine ev_ls (L' := [some (.ref 0), some (.int a1), some (.int a2)]) (st' := [.ref 0]) (pc' := 1) hk (.aload_n 0) 1 rfl rfl rfl rfl ?_
  refine ev_ls (L' := [some (.ref 0), some (.int a1), some (.int a2)]) (st' := [.int a1, .ref 0]) (pc' := 2) hk (.iload_n 1) 1 rfl rfl rfl rfl ?_
  rcases bnx_some hx with ⟨⟨⟩, hc2, hx⟩ | ⟨E3, hc2, hx⟩
  · skip
    refine ev_cv 344 1 [] 5 hk rfl rfl rfl rfl lk_dh rfl rfl rfl (rX_needSpot hc2) rfl rfl rfl rfl ?_
    refine ev_ls (L' := [some (.ref 0), some (.int a1), some (.int a2)]) (st' := [.ref 0]) (pc' := 6) hk (.aload_n 0) 1 rfl rfl rfl rfl ?_
    refine ev_gf (.ref 10) 9 hk rfl rfl lk_dh rfl rfl ?_
    refine ev_gf (.ref (10 + 6)) 12 hk rfl rfl (lk_globe isG_10 rfl) rfl rfl ?_
    refine ev_ls (L' := [some (.ref 0), some (.int a1), some (.int a2)]) (st' := [.int a1, .ref (10 + 6)]) (pc' := 13) hk (.iload_n 1) 1 rfl rfl rfl rfl ?_
    obtain ⟨p5, hp5, hx⟩ := bnd_some hx
    have hpp5 := rix_lt hp5
    refine ev_aal (10 + (7 + p5)) hp5 14 hk rfl (lk_spots isG_10 rfl) (by decide) (lk_sp hpp5) rfl ?_
    refine ev_gf (.long (gN (Γ 10) (7 + p5))) 17 hk rfl rfl (lk_spot isG_10 hpp5 rfl) rfl rfl ?_
    refine ev_ls (L' := [some (.ref 0), some (.int a1), some (.int a2)]) (st' := [.int a2, .long (gN (Γ 10) (7 + p5))]) (pc' := 18) hk (.iload_n 2) 1 rfl rfl rfl rfl ?_
    obtain ⟨v6, hc7, hx⟩ := bnd_some hx
    refine ev_cs 298 2 [.int v6] 21 hk rfl rfl (by decide) rfl rfl rfl (rW_letterAt hc7) rfl rfl rfl rfl ?_
    cases hx
    obtain rfl := hM
    exact ev_retI hk rfl rfl
  · skip
    cases hx
    obtain rfl := hM
    exact ev_cvX 344 1 hk rfl rfl rfl rfl lk_dh rfl rfl rfl rfl (rX_needSpot hc2) rfl rfl

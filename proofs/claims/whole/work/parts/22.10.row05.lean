/-! THE ROWS of the methods: each function is what the pure machine does (5) -/
set_option maxRecDepth 2000 in
theorem rM_addsSpot {S : Nat} {xs : Nat → Int32} {I : zI} {C : zC} {Y : Nat → Int32} {Γ : Nat → zG} {D : zD} {O : Nat → Int32} {M : zM} {ou : Nat → Int64} {od : Nat → UInt64} {j : Nat} {a1 : Int64} {a3 : Int32} {a4 : Int32} {a5 : Int32} {X : Int32 × zM}   (hx : fM_addsSpot M a1 a3 a4 a5 = some X) : Ev S xs 22 0 [some (.ref 247), some (.long a1), none, some (.int a3), some (.int a4), some (.int a5), none, none, none] [] (zH I C Y Γ D O M ou od j) (((.inl (some (.int X.1))), (zH I C Y Γ D O X.2 ou od j)) : (Option Value ⊕ String) × px_H) := by
  generalize hM : (((.inl (some (.int X.1))), (zH I C Y Γ D O X.2 ou od j)) : (Option Value ⊕ String) × px_H) = y
  replace hM := hM.symm
  have hk : pt_mt[22]? = some pt_r22 := rfl
  unfold fM_addsSpot at hx
  refine ev_ls (L' := [some (.ref 247), some (.long a1), none, some (.int a3), some (.int a4), some (.int a5), none, none, none]) (st' := [.ref 247]) (pc' := 1) hk (.aload_n 0) 1 rfl rfl rfl rfl ?_
  refine ev_gf (.ref 249) 4 hk rfl rfl lk_model rfl rfl ?_
  refine ev_op (st' := [.int 1, .ref 249]) (pc' := 5) hk (.iconst 1) 1 rfl rfl rfl ?_
  refine ev_ial (v := ((mA M 249) 1)) rfl 6 hk rfl lk_m249 rfl ?_
  refine ev_ls (L' := [some (.ref 247), some (.long a1), none, some (.int a3), some (.int a4), some (.int a5), some (.int ((mA M 249) 1)), none, none]) (st' := []) (pc' := 8) hk (.istore 6) 2 rfl rfl rfl rfl ?_
  refine ev_ls (L' := [some (.ref 247), some (.long a1), none, some (.int a3), some (.int a4), some (.int a5), some (.int ((mA M 249) 1)), none, none]) (st' := [.int ((mA M 249) 1)]) (pc' := 10) hk (.iload 6) 2 rfl rfl rfl rfl ?_
  refine ev_cs 168 1 [.int (fM_spt ((mA M 249) 1))] 13 hk rfl rfl (by decide) rfl rfl rfl (rM_spt rfl) rfl rfl rfl rfl ?_
  refine ev_ls (L' := [some (.ref 247), some (.long a1), none, some (.int a3), some (.int a4), some (.int a5), some (.int ((mA M 249) 1)), some (.int (fM_spt ((mA M 249) 1))), none]) (st' := []) (pc' := 15) hk (.istore 7) 2 rfl rfl rfl rfl ?_
  refine ev_op (st' := [.int 0]) (pc' := 16) hk (.iconst 0) 1 rfl rfl rfl ?_
  refine ev_ls (L' := [some (.ref 247), some (.long a1), none, some (.int a3), some (.int a4), some (.int a5), some (.int ((mA M 249) 1)), some (.int (fM_spt ((mA M 249) 1))), some (.int 0)]) (st' := []) (pc' := 18) hk (.istore 8) 2 rfl rfl rfl rfl ?_
  exact ev_iter (qM_addsSpot_18 S xs I C Y Γ D O ou od j a1 a3 a4 a5 ((mA M 249) 1) (fM_spt ((mA M 249) 1)) _) (fun X : Int32 × zM => y = (((.inl (some (.int X.1))), (zH I C Y Γ D O X.2 ou od j)) : (Option Value ⊕ String) × px_H)) (fun s x hb hM => rM_addsSpot_b18 hb hM) fu _ _ hx hM 
set_option maxRecDepth 2000 in
theorem rM_addsBy {S : Nat} {xs : Nat → Int32} {I : zI} {C : zC} {Y : Nat → Int32} {Γ : Nat → zG} {D : zD} {O : Nat → Int32} {M : zM} {ou : Nat → Int64} {od : Nat → UInt64} {j : Nat} {a1 : Int32} {a2 : Int32} {a3 : Int32} {X : Int32 × zM}   (hx : fM_addsBy M a1 a2 a3 = some X) : Ev S xs 19 0 [some (.ref 247), some (.int a1), some (.int a2), some (.int a3), none, none] [] (zH I C Y Γ D O M ou od j) (((.inl (some (.int X.1))), (zH I C Y Γ D O X.2 ou od j)) : (Option Value ⊕ String) × px_H) := by
  generalize hM : (((.inl (some (.int X.1))), (zH I C Y Γ D O X.2 ou od j)) : (Option Value ⊕ String) × px_H) = y
  replace hM := hM.symm
  have hk : pt_mt[19]? = some pt_r19 := rfl
  unfold fM_addsBy at hx
  refine ev_ls (L' := [some (.ref 247), some (.int a1), some (.int a2), some (.int a3), none, none]) (st' := [.ref 247]) (pc' := 1) hk (.aload_n 0) 1 rfl rfl rfl rfl ?_
  obtain ⟨v2, hc3, hx⟩ := bnd_some hx
  refine ev_cv 31 0 [.long v2] 4 hk rfl rfl rfl rfl lk_model rfl rfl rfl (rM_bufferName hc3) rfl rfl rfl rfl ?_
  refine ev_ls (L' := [some (.ref 247), some (.int a1), some (.int a2), some (.int a3), some (.long v2), none]) (st' := []) (pc' := 6) hk (.lstore 4) 2 rfl rfl rfl rfl ?_
  refine ev_ls (L' := [some (.ref 247), some (.int a1), some (.int a2), some (.int a3), some (.long v2), none]) (st' := [.ref 247]) (pc' := 7) hk (.aload_n 0) 1 rfl rfl rfl rfl ?_
  refine ev_ls (L' := [some (.ref 247), some (.int a1), some (.int a2), some (.int a3), some (.long v2), none]) (st' := [.int a2, .ref 247]) (pc' := 8) hk (.iload_n 2) 1 rfl rfl rfl rfl ?_
  refine ev_ls (L' := [some (.ref 247), some (.int a1), some (.int a2), some (.int a3), some (.long v2), none]) (st' := [.int a3, .int a2, .ref 247]) (pc' := 9) hk (.iload_n 3) 1 rfl rfl rfl rfl ?_
  refine ev_cs 93 2 [.int (b2i (fM_isSpotAt a2 a3)), .ref 247] 12 hk rfl rfl (by decide) rfl rfl rfl (rM_isSpotAt rfl) rfl rfl rfl rfl ?_
  refine ev_ls (L' := [some (.ref 247), some (.int a1), some (.int a2), some (.int a3), some (.long v2), none]) (st' := [.ref 247, .int (b2i (fM_isSpotAt a2 a3)), .ref 247]) (pc' := 13) hk (.aload_n 0) 1 rfl rfl rfl rfl ?_
  refine ev_ls (L' := [some (.ref 247), some (.int a1), some (.int a2), some (.int a3), some (.long v2), none]) (st' := [.long v2, .ref 247, .int (b2i (fM_isSpotAt a2 a3)), .ref 247]) (pc' := 15) hk (.lload 4) 2 rfl rfl rfl rfl ?_
  obtain ⟨v4, hc5, hx⟩ := bnd_some hx
  refine ev_cv 130 1 [.int (b2i v4), .int (b2i (fM_isSpotAt a2 a3)), .ref 247] 18 hk rfl rfl rfl rfl lk_model rfl rfl rfl (rM_mayAdd hc5) rfl rfl rfl rfl ?_
  obtain ⟨v7, M6, hc8, hx⟩ := bnd2_some hx
  refine ev_cv 61 2 [.int (b2i v7)] 21 hk rfl rfl rfl rfl lk_model rfl rfl rfl (rM_goesBoth hc8) rfl rfl rfl rfl ?_
  refine ev_d1 26 24 hk rfl rfl rfl rfl (px_bne hx (fun hc hx => ?_) (fun hc hx => ?_))
  · refine ev_ls (L' := [some (.ref 247), some (.int a1), some (.int a2), some (.int a3), some (.long v2), none]) (st' := [.ref 247]) (pc' := 27) hk (.aload_n 0) 1 rfl rfl rfl rfl ?_
    obtain ⟨M9, hc10, hx⟩ := bnd_some hx
    refine ev_cv 117 0 [] 30 hk rfl rfl rfl rfl lk_model rfl rfl rfl (rM_laysAside hc10) rfl rfl rfl rfl ?_
    refine ev_ls (L' := [some (.ref 247), some (.int a1), some (.int a2), some (.int a3), some (.long v2), none]) (st' := [.ref 247]) (pc' := 31) hk (.aload_n 0) 1 rfl rfl rfl rfl ?_
    refine ev_op (st' := [.int 0, .ref 247]) (pc' := 32) hk (.iconst 0) 1 rfl rfl rfl ?_
    obtain ⟨M11, hM11, hx⟩ := bnd_some hx
    have hM11 := Option.some.inj hM11
    refine ev_pf 35 hk rfl rfl lk_model rfl rfl rfl (sf_8_2 hM11) rfl ?_
    refine ev_ls (L' := [some (.ref 247), some (.int a1), some (.int a2), some (.int a3), some (.long v2), none]) (st' := [.ref 247]) (pc' := 36) hk (.aload_n 0) 1 rfl rfl rfl rfl ?_
    refine ev_ls (L' := [some (.ref 247), some (.int a1), some (.int a2), some (.int a3), some (.long v2), none]) (st' := [.ref 247, .ref 247]) (pc' := 37) hk (.aload_n 0) 1 rfl rfl rfl rfl ?_
    refine ev_ls (L' := [some (.ref 247), some (.int a1), some (.int a2), some (.int a3), some (.long v2), none]) (st' := [.long v2, .ref 247, .ref 247]) (pc' := 39) hk (.lload 4) 2 rfl rfl rfl rfl ?_
    refine ev_ls (L' := [some (.ref 247), some (.int a1), some (.int a2), some (.int a3), some (.long v2), none]) (st' := [.int a1, .long v2, .ref 247, .ref 247]) (pc' := 40) hk (.iload_n 1) 1 rfl rfl rfl rfl ?_
    refine ev_ls (L' := [some (.ref 247), some (.int a1), some (.int a2), some (.int a3), some (.long v2), none]) (st' := [.int a2, .int a1, .long v2, .ref 247, .ref 247]) (pc' := 41) hk (.iload_n 2) 1 rfl rfl rfl rfl ?_
    refine ev_ls (L' := [some (.ref 247), some (.int a1), some (.int a2), some (.int a3), some (.long v2), none]) (st' := [.int a3, .int a2, .int a1, .long v2, .ref 247, .ref 247]) (pc' := 42) hk (.iload_n 3) 1 rfl rfl rfl rfl ?_
    obtain ⟨v13, M12, hc14, hx⟩ := bnd2_some hx
    refine ev_cv 22 4 [.int v13, .ref 247] 45 hk rfl rfl rfl rfl lk_model rfl rfl rfl (rM_addsSpot hc14) rfl rfl rfl rfl ?_
    obtain ⟨v16, M15, hc17, hx⟩ := bnd2_some hx
    refine ev_cv 105 1 [.int v16] 48 hk rfl rfl rfl rfl lk_model rfl rfl rfl (rM_kept hc17) rfl rfl rfl rfl ?_
    cases hx
    obtain rfl := hM
    exact ev_retI hk rfl rfl
  · refine ev_op (st' := [.int 0]) (pc' := 25) hk (.iconst 0) 1 rfl rfl rfl ?_
    cases hx
    obtain rfl := hM
    exact ev_retI hk rfl rfl
set_option maxRecDepth 2000 in
theorem rM_addTraveller {S : Nat} {xs : Nat → Int32} {I : zI} {C : zC} {Y : Nat → Int32} {Γ : Nat → zG} {D : zD} {O : Nat → Int32} {M : zM} {ou : Nat → Int64} {od : Nat → UInt64} {j : Nat} {a1 : Int32} {a2 : Int32} {X : Int32 × zM}   (hx : fM_addTraveller M a1 a2 = some X) : Ev S xs 18 0 [some (.ref 247), some (.int a1), some (.int a2)] [] (zH I C Y Γ D O M ou od j) (((.inl (some (.int X.1))), (zH I C Y Γ D O X.2 ou od j)) : (Option Value ⊕ String) × px_H) := by
  generalize hM : (((.inl (some (.int X.1))), (zH I C Y Γ D O X.2 ou od j)) : (Option Value ⊕ String) × px_H) = y
  replace hM := hM.symm
  have hk : pt_mt[18]? = some pt_r18 := rfl
  unfold fM_addTraveller at hx
  refine ev_ls (L' := [some (.ref 247), some (.int a1), some (.int a2)]) (st' := [.ref 247]) (pc' := 1) hk (.aload_n 0) 1 rfl rfl rfl rfl ?_
  refine ev_op (st' := [.int 1, .ref 247]) (pc' := 2) hk (.iconst 1) 1 rfl rfl rfl ?_
  refine ev_ls (L' := [some (.ref 247), some (.int a1), some (.int a2)]) (st' := [.int a1, .int 1, .ref 247]) (pc' := 3) hk (.iload_n 1) 1 rfl rfl rfl rfl ?_
  refine ev_ls (L' := [some (.ref 247), some (.int a1), some (.int a2)]) (st' := [.int a2, .int a1, .int 1, .ref 247]) (pc' := 4) hk (.iload_n 2) 1 rfl rfl rfl rfl ?_
  obtain ⟨v2, M1, hc3, hx⟩ := bnd2_some hx
  refine ev_cv 19 3 [.int v2] 7 hk rfl rfl rfl rfl lk_model rfl rfl rfl (rM_addsBy hc3) rfl rfl rfl rfl ?_
  cases hx
  obtain rfl := hM
  exact ev_retI hk rfl rfl
set_option maxRecDepth 2000 in
theorem rX_addTown {S : Nat} {xs : Nat → Int32} {I : zI} {C : zC} {Y : Nat → Int32} {Γ : Nat → zG} {D : zD} {O : Nat → Int32} {M : zM} {ou : Nat → Int64} {od : Nat → UInt64} {j : Nat} {a1 : Int32} {a2 : Int32} {X : (Int32 ⊕ String) × zI × (Nat → Int32) × (Nat → zG)}   (hx : fX_addTown I Y Γ a1 a2 = some X) : Ev S xs 301 0 [some (.ref 0), some (.int a1), some (.int a2)] [] (zH I C Y Γ D O M ou od j) (Sum.elim (fun v => ((.inl (some (.int v))), (zH X.2.1 C X.2.2.1 X.2.2.2 D O M ou od j))) (fun E => (.inr E, (zH X.2.1 C X.2.2.1 X.2.2.2 D O M ou od (j + 1)))) X.1 : (Option Value ⊕ String) × px_H) := by
  generalize hM : (Sum.elim (fun v => ((.inl (some (.int v))), (zH X.2.1 C X.2.2.1 X.2.2.2 D O M ou od j))) (fun E => (.inr E, (zH X.2.1 C X.2.2.1 X.2.2.2 D O M ou od (j + 1)))) X.1 : (Option Value ⊕ String) × px_H) = y
  replace hM := hM.symm
  have hk : pt_mt[301]? = some pt_r301 := rfl
  unfold fX_addTown at hx
  refine ev_ls (L' := [some (.ref 0), some (.int a1), some (.int a2)]) (st' := [.ref 0]) (pc' := 1) hk (.aload_n 0) 1 rfl rfl rfl rfl ?_
  refine ev_ls (L' := [some (.ref 0), some (.int a1), some (.int a2)]) (st' := [.int a1, .ref 0]) (pc' := 2) hk (.iload_n 1) 1 rfl rfl rfl rfl ?_
  refine ev_ls (L' := [some (.ref 0), some (.int a1), some (.int a2)]) (st' := [.int a2, .int a1, .ref 0]) (pc' := 3) hk (.iload_n 2) 1 rfl rfl rfl rfl ?_
  refine ev_op (st' := [.int 0, .int a2, .int a1, .ref 0]) (pc' := 4) hk (.iconst 0) 1 rfl rfl rfl ?_
  obtain ⟨r7, I1, Y2, Γ3, hc4, hx⟩ := bnd4_some hx
  rcases r7 with v6 | E5
  · simp only [Sum.elim_inl] at hx
    refine ev_cv 339 3 [.int v6] 7 hk rfl rfl rfl rfl lk_dh rfl rfl rfl (rX_nameSpot hc4) rfl rfl rfl rfl ?_
    cases hx
    obtain rfl := hM
    exact ev_retI hk rfl rfl
  · simp only [Sum.elim_inr] at hx
    cases hx
    obtain rfl := hM
    exact ev_cvX 339 3 hk rfl rfl rfl rfl lk_dh rfl rfl rfl rfl (rX_nameSpot hc4) rfl rfl
set_option maxRecDepth 2000 in
theorem rw_addTown {S : Nat} {xs : Nat → Int32} {I : zI} {C : zC} {Y : Nat → Int32} {Γ : Nat → zG} {D : zD} {O : Nat → Int32} {M : zM} {ou : Nat → Int64} {od : Nat → UInt64} {j : Nat} {a1 : Int32} {a2 : Int32} {X : Int32 × zI × (Nat → Int32) × (Nat → zG) × (Nat → Int64) × Nat}   (hx : fw_addTown I Y Γ ou j a1 a2 = some X) : Ev S xs 369 0 [some (.ref 0), some (.int a1), some (.int a2), some (.ref 261), none] [] (zH I C Y Γ D O M ou od j) (((.inl (some (.int X.1))), (zH X.2.1 C X.2.2.1 X.2.2.2.1 D O M X.2.2.2.2.1 od X.2.2.2.2.2)) : (Option Value ⊕ String) × px_H) := by
  generalize hM : (((.inl (some (.int X.1))), (zH X.2.1 C X.2.2.1 X.2.2.2.1 D O M X.2.2.2.2.1 od X.2.2.2.2.2)) : (Option Value ⊕ String) × px_H) = y
  replace hM := hM.symm
  have hk : pt_mt[369]? = some pt_r369 := rfl
  unfold fw_addTown at hx
  refine ev_ls (L' := [some (.ref 0), some (.int a1), some (.int a2), some (.ref 261), none]) (st' := [.ref 261]) (pc' := 1) hk (.aload_n 3) 1 rfl rfl rfl rfl ?_
  refine ev_op (st' := [.int 0, .ref 261]) (pc' := 2) hk (.iconst 0) 1 rfl rfl rfl ?_
  refine ev_ls (L' := [some (.ref 0), some (.int a1), some (.int a2), some (.ref 261), none]) (st' := [.ref 0, .int 0, .ref 261]) (pc' := 3) hk (.aload_n 0) 1 rfl rfl rfl rfl ?_
  refine ev_ls (L' := [some (.ref 0), some (.int a1), some (.int a2), some (.ref 261), none]) (st' := [.int a1, .ref 0, .int 0, .ref 261]) (pc' := 4) hk (.iload_n 1) 1 rfl rfl rfl rfl ?_
  refine ev_ls (L' := [some (.ref 0), some (.int a1), some (.int a2), some (.ref 261), none]) (st' := [.int a2, .int a1, .ref 0, .int 0, .ref 261]) (pc' := 5) hk (.iload_n 2) 1 rfl rfl rfl rfl ?_
  obtain ⟨r9, I2, Y3, Γ4, hc5, hx⟩ := bnd4_some hx
  rcases r9 with v7 | E6
  · simp only [Sum.elim_inl] at hx
    refine ev_cv 301 2 [.int v7, .int 0, .ref 261] 8 hk rfl rfl rfl rfl lk_dh rfl rfl rfl (rX_addTown hc5) rfl rfl rfl rfl ?_
    refine ev_op (st' := [.long (Int32.toInt64 v7), .int 0, .ref 261]) (pc' := 9) hk (.i2l) 1 rfl rfl rfl ?_
    obtain ⟨ou8, hou8, hx⟩ := bnd_some hx
    have hou8 := Option.some.inj hou8
    refine ev_las (A := (vp_updL ou 0 (Int32.toInt64 v7))) rfl 10 hk rfl lk_ou (sa_ou hou8) rfl ?_
    refine ev_jp (pc' := 21) (st' := []) hk (.goto 11) 3 rfl rfl rfl rfl rfl ?_
    refine ev_op (st' := [.int 0]) (pc' := 22) hk (.iconst 0) 1 rfl rfl rfl ?_
    cases hx
    obtain rfl := hM
    exact ev_retI hk rfl rfl
  · simp only [Sum.elim_inr] at hx
    rcases ite_or hx with ⟨hE, hx⟩ | ⟨hE, hx⟩
    · subst hE
      refine ev_cvC 301 2 15 hk rfl rfl rfl rfl lk_dh rfl rfl rfl (t := 13) (by decide +kernel) (L' := [some (.ref 0), some (.int a1), some (.int a2), some (.ref 261), none]) rfl (rX_addTown hc5) rfl rfl ?_
      refine ev_op (st' := [.int 1]) (pc' := 16) hk (.iconst 1) 1 rfl rfl rfl ?_
      cases hx
      obtain rfl := hM
      exact ev_retI hk rfl rfl
    rcases ite_or hx with ⟨hE, hx⟩ | ⟨hE, hx⟩
    · subst hE
      refine ev_cvC 301 2 19 hk rfl rfl rfl rfl lk_dh rfl rfl rfl (t := 17) (by decide +kernel) (L' := [some (.ref 0), some (.int a1), some (.int a2), some (.ref 261), none]) rfl (rX_addTown hc5) rfl rfl ?_
      refine ev_op (st' := [.int 2]) (pc' := 20) hk (.iconst 2) 1 rfl rfl rfl ?_
      cases hx
      obtain rfl := hM
      exact ev_retI hk rfl rfl
    cases hx
set_option maxRecDepth 2000 in
theorem rM_addTown {S : Nat} {xs : Nat → Int32} {I : zI} {C : zC} {Y : Nat → Int32} {Γ : Nat → zG} {D : zD} {O : Nat → Int32} {M : zM} {ou : Nat → Int64} {od : Nat → UInt64} {j : Nat} {a1 : Int32} {a2 : Int32} {X : Int32 × zM}   (hx : fM_addTown M a1 a2 = some X) : Ev S xs 17 0 [some (.ref 247), some (.int a1), some (.int a2)] [] (zH I C Y Γ D O M ou od j) (((.inl (some (.int X.1))), (zH I C Y Γ D O X.2 ou od j)) : (Option Value ⊕ String) × px_H) := by
  generalize hM : (((.inl (some (.int X.1))), (zH I C Y Γ D O X.2 ou od j)) : (Option Value ⊕ String) × px_H) = y
  replace hM := hM.symm
  have hk : pt_mt[17]? = some pt_r17 := rfl
  unfold fM_addTown at hx
  refine ev_ls (L' := [some (.ref 247), some (.int a1), some (.int a2)]) (st' := [.ref 247]) (pc' := 1) hk (.aload_n 0) 1 rfl rfl rfl rfl ?_
  refine ev_op (st' := [.int 0, .ref 247]) (pc' := 2) hk (.iconst 0) 1 rfl rfl rfl ?_
  refine ev_ls (L' := [some (.ref 247), some (.int a1), some (.int a2)]) (st' := [.int a1, .int 0, .ref 247]) (pc' := 3) hk (.iload_n 1) 1 rfl rfl rfl rfl ?_
  refine ev_ls (L' := [some (.ref 247), some (.int a1), some (.int a2)]) (st' := [.int a2, .int a1, .int 0, .ref 247]) (pc' := 4) hk (.iload_n 2) 1 rfl rfl rfl rfl ?_
  obtain ⟨v2, M1, hc3, hx⟩ := bnd2_some hx
  refine ev_cv 19 3 [.int v2] 7 hk rfl rfl rfl rfl lk_model rfl rfl rfl (rM_addsBy hc3) rfl rfl rfl rfl ?_
  cases hx
  obtain rfl := hM
  exact ev_retI hk rfl rfl
set_option maxRecDepth 2000 in
theorem rL_coveredIn {S : Nat} {xs : Nat → Int32} {I : zI} {C : zC} {Y : Nat → Int32} {Γ : Nat → zG} {D : zD} {O : Nat → Int32} {M : zM} {ou : Nat → Int64} {od : Nat → UInt64} {j : Nat} {g : Nat} {G : zG} {p0 : Nat} {a1 : Int32} {X : Int32}  (hg : isG g) (hp0 : p0 < 8) (hx : fL_coveredIn G p0 a1 = X) : Ev S xs 280 0 [some (.ref (g + (18 + p0))), some (.int a1)] [] (zH I C Y (gup Γ g G) D O M ou od j) (((.inl (some (.int X))), (zH I C Y (gup Γ g G) D O M ou od j)) : (Option Value ⊕ String) × px_H) := by
  generalize hM : (((.inl (some (.int X))), (zH I C Y (gup Γ g G) D O M ou od j)) : (Option Value ⊕ String) × px_H) = y
  replace hM := hM.symm
  have hk : pt_mt[280]? = some pt_r280 := rfl
  unfold fL_coveredIn at hx
  refine ev_ls (L' := [some (.ref (g + (18 + p0))), some (.int a1)]) (st' := [.ref (g + (18 + p0))]) (pc' := 1) hk (.aload_n 0) 1 rfl rfl rfl rfl ?_
  refine ev_gf (.int (b2i (gB G (18 + p0)))) 4 hk rfl rfl (lk_label hg hp0 gup_same) rfl rfl ?_
  refine ev_d1 15 7 hk rfl rfl rfl rfl (px_bne hx (fun hc hx => ?_) (fun hc hx => ?_))
  · refine ev_op (st' := [.int 0]) (pc' := 16) hk (.iconst 0) 1 rfl rfl rfl ?_
    refine ev_jp (pc' := 30) (st' := [.int 0]) hk (.goto 14) 3 rfl rfl rfl rfl rfl ?_
    cases hx
    obtain rfl := hM
    exact ev_retI hk rfl rfl
  · refine ev_ls (L' := [some (.ref (g + (18 + p0))), some (.int a1)]) (st' := [.ref (g + (18 + p0))]) (pc' := 8) hk (.aload_n 0) 1 rfl rfl rfl rfl ?_
    refine ev_gf (.int (gF G (18 + p0) 0)) 11 hk rfl rfl (lk_label hg hp0 gup_same) rfl rfl ?_
    refine ev_ls (L' := [some (.ref (g + (18 + p0))), some (.int a1)]) (st' := [.int a1, .int (gF G (18 + p0) 0)]) (pc' := 12) hk (.iload_n 1) 1 rfl rfl rfl rfl ?_
    refine ev_d2 19 15 hk rfl rfl rfl rfl (px_ceq hx (fun hc hx => ?_) (fun hc hx => ?_))
    · refine ev_ls (L' := [some (.ref (g + (18 + p0))), some (.int a1)]) (st' := [.ref (g + (18 + p0))]) (pc' := 20) hk (.aload_n 0) 1 rfl rfl rfl rfl ?_
      refine ev_gf (.int (gF G (18 + p0) 2)) 23 hk rfl rfl (lk_label hg hp0 gup_same) rfl rfl ?_
      refine ev_ls (L' := [some (.ref (g + (18 + p0))), some (.int a1)]) (st' := [.ref (g + (18 + p0)), .int (gF G (18 + p0) 2)]) (pc' := 24) hk (.aload_n 0) 1 rfl rfl rfl rfl ?_
      refine ev_gf (.int (gF G (18 + p0) 1)) 27 hk rfl rfl (lk_label hg hp0 gup_same) rfl rfl ?_
      refine ev_op (st' := [.int ((gF G (18 + p0) 2) - (gF G (18 + p0) 1))]) (pc' := 28) hk (.isub) 1 rfl rfl rfl ?_
      refine ev_op (st' := [.int 1, .int ((gF G (18 + p0) 2) - (gF G (18 + p0) 1))]) (pc' := 29) hk (.iconst 1) 1 rfl rfl rfl ?_
      refine ev_op (st' := [.int (((gF G (18 + p0) 2) - (gF G (18 + p0) 1)) + 1)]) (pc' := 30) hk (.iadd) 1 rfl rfl rfl ?_
      cases hx
      obtain rfl := hM
      exact ev_retI hk rfl rfl
    · refine ev_op (st' := [.int 0]) (pc' := 16) hk (.iconst 0) 1 rfl rfl rfl ?_
      refine ev_jp (pc' := 30) (st' := [.int 0]) hk (.goto 14) 3 rfl rfl rfl rfl rfl ?_
      cases hx
      obtain rfl := hM
      exact ev_retI hk rfl rfl
def qX_labelShare_8 (S : Nat) (xs : Nat → Int32) (I : zI) (C : zC) (Y : Nat → Int32) (Γ : Nat → zG) (D : zD) (O : Nat → Int32) (M : zM) (ou : Nat → Int64) (od : Nat → UInt64) (j : Nat) (a1 : Int32) (y : (Option Value ⊕ String) × px_H) (s : Int32 × Int32) : Prop := Ev S xs 332 8 [some (.ref 0), some (.int a1), some (.int s.1), some (.int s.2)] [] (zH I C Y Γ D O M ou od j) y
set_option maxRecDepth 4000 in
theorem rX_labelShare_b8 {S : Nat} {xs : Nat → Int32} {I : zI} {C : zC} {Y : Nat → Int32} {Γ : Nat → zG} {D : zD} {O : Nat → Int32} {M : zM} {ou : Nat → Int64} {od : Nat → UInt64} {j : Nat} {a1 : Int32} {y : (Option Value ⊕ String) × px_H} {s : Int32 × Int32} {x : (Int32 × Int32) ⊕ ((UInt32 ⊕ String))}  (hx : fX_labelShare_b8 Γ a1 s.1 s.2 = some x) (hM : (Sum.elim (qX_labelShare_8 S xs I C Y Γ D O M ou od j a1 y) (fun X : (UInt32 ⊕ String) => y = (Sum.elim (fun v => ((.inl (some (.float v))), (zH I C Y Γ D O M ou od j))) (fun E => (.inr E, (zH I C Y Γ D O M ou od (j + 1)))) X : (Option Value ⊕ String) × px_H))) x) : qX_labelShare_8 S xs I C Y Γ D O M ou od j a1 y s := by
  obtain ⟨a2, a3⟩ := s
  have hk : pt_mt[332]? = some pt_r332 := rfl
  unfold fX_labelShare_b8 at hx
  try dsimp only at hx
  refine ev_ls (L' := [some (.ref 0), some (.int a1), some (.int a2), some (.int a3)]) (st' := [.int a3]) (pc' := 9) hk (.iload_n 3) 1 rfl rfl rfl rfl ?_
  refine ev_ls (L' := [some (.ref 0), some (.int a1), some (.int a2), some (.int a3)]) (st' := [.ref 0, .int a3]) (pc' := 10) hk (.aload_n 0) 1 rfl rfl rfl rfl ?_
  refine ev_gf (.ref 10) 13 hk rfl rfl lk_dh rfl rfl ?_
  refine ev_gf (.int (gF (Γ 10) 0 6)) 16 hk rfl rfl (lk_globe isG_10 rfl) rfl rfl ?_
  refine ev_d2 41 19 hk rfl rfl rfl rfl (px_cge hx (fun hc hx => ?_) (fun hc hx => ?_))
  · refine ev_ls (L' := [some (.ref 0), some (.int a1), some (.int a2), some (.int a3)]) (st' := [.int a2]) (pc' := 42) hk (.iload_n 2) 1 rfl rfl rfl rfl ?_
    refine ev_op (st' := [.float (FP.i2f a2)]) (pc' := 43) hk (.i2f) 1 rfl rfl rfl ?_
    refine ev_ldV 1135869952 46 hk rfl rfl rfl ?_
    obtain ⟨v5, hv5, hx⟩ := bnd_some hx
    refine ev_fdv 47 hk rfl hv5 rfl ?_
    cases hx
    obtain rfl := hM
    exact ev_retF hk rfl rfl
  · refine ev_ls (L' := [some (.ref 0), some (.int a1), some (.int a2), some (.int a3)]) (st' := [.int a2]) (pc' := 20) hk (.iload_n 2) 1 rfl rfl rfl rfl ?_
    refine ev_ls (L' := [some (.ref 0), some (.int a1), some (.int a2), some (.int a3)]) (st' := [.ref 0, .int a2]) (pc' := 21) hk (.aload_n 0) 1 rfl rfl rfl rfl ?_
    refine ev_gf (.ref 10) 24 hk rfl rfl lk_dh rfl rfl ?_
    refine ev_gf (.ref (10 + 17)) 27 hk rfl rfl (lk_globe isG_10 rfl) rfl rfl ?_
    refine ev_ls (L' := [some (.ref 0), some (.int a1), some (.int a2), some (.int a3)]) (st' := [.int a3, .ref (10 + 17), .int a2]) (pc' := 28) hk (.iload_n 3) 1 rfl rfl rfl rfl ?_
    obtain ⟨p6, hp6, hx⟩ := bnd_some hx
    have hpp6 := rix_lt hp6
    refine ev_aal (10 + (18 + p6)) hp6 29 hk rfl (lk_labels isG_10 rfl) (by decide) (lk_la hpp6) rfl ?_
    refine ev_ls (L' := [some (.ref 0), some (.int a1), some (.int a2), some (.int a3)]) (st' := [.int a1, .ref (10 + (18 + p6)), .int a2]) (pc' := 30) hk (.iload_n 1) 1 rfl rfl rfl rfl ?_
    refine ev_cv 280 1 [.int (fL_coveredIn (Γ 10) p6 a1), .int a2] 33 hk rfl rfl rfl rfl (lk_label isG_10 hpp6 rfl) rfl rfl rfl (ev_gs2 (rL_coveredIn isG_10 hpp6 rfl)) rfl rfl rfl rfl ?_
    refine ev_op (st' := [.int (a2 + (fL_coveredIn (Γ 10) p6 a1))]) (pc' := 34) hk (.iadd) 1 rfl rfl rfl ?_
    refine ev_ls (L' := [some (.ref 0), some (.int a1), some (.int (a2 + (fL_coveredIn (Γ 10) p6 a1))), some (.int a3)]) (st' := []) (pc' := 35) hk (.istore_n 2) 1 rfl rfl rfl rfl ?_
    refine ev_ls (L' := [some (.ref 0), some (.int a1), some (.int (a2 + (fL_coveredIn (Γ 10) p6 a1))), some (.int (a3 + 1))]) (st' := []) (pc' := 38) hk (.iinc 3 1) 3 rfl rfl rfl rfl ?_
    refine ev_jp (pc' := 8) (st' := []) hk (.goto (-30)) 3 rfl rfl rfl rfl rfl ?_
    cases hx
    exact hM
set_option maxRecDepth 2000 in
theorem rX_labelShare {S : Nat} {xs : Nat → Int32} {I : zI} {C : zC} {Y : Nat → Int32} {Γ : Nat → zG} {D : zD} {O : Nat → Int32} {M : zM} {ou : Nat → Int64} {od : Nat → UInt64} {j : Nat} {a1 : Int32} {X : (UInt32 ⊕ String)}   (hx : fX_labelShare Γ a1 = some X) : Ev S xs 332 0 [some (.ref 0), some (.int a1), none, none] [] (zH I C Y Γ D O M ou od j) (Sum.elim (fun v => ((.inl (some (.float v))), (zH I C Y Γ D O M ou od j))) (fun E => (.inr E, (zH I C Y Γ D O M ou od (j + 1)))) X : (Option Value ⊕ String) × px_H) := by
  generalize hM : (Sum.elim (fun v => ((.inl (some (.float v))), (zH I C Y Γ D O M ou od j))) (fun E => (.inr E, (zH I C Y Γ D O M ou od (j + 1)))) X : (Option Value ⊕ String) × px_H) = y
  replace hM := hM.symm
  have hk : pt_mt[332]? = some pt_r332 := rfl
  unfold fX_labelShare at hx
  refine ev_ls (L' := [some (.ref 0), some (.int a1), none, none]) (st' := [.int a1]) (pc' := 1) hk (.iload_n 1) 1 rfl rfl rfl rfl ?_
  rcases bnx_some hx with ⟨⟨⟩, hc7, hx⟩ | ⟨E8, hc7, hx⟩
  · skip
    refine ev_cs 340 1 [] 4 hk rfl rfl (by decide) rfl rfl rfl (rX_needBand hc7) rfl rfl rfl rfl ?_
    refine ev_op (st' := [.int 0]) (pc' := 5) hk (.iconst 0) 1 rfl rfl rfl ?_
    refine ev_ls (L' := [some (.ref 0), some (.int a1), some (.int 0), none]) (st' := []) (pc' := 6) hk (.istore_n 2) 1 rfl rfl rfl rfl ?_
    refine ev_op (st' := [.int 0]) (pc' := 7) hk (.iconst 0) 1 rfl rfl rfl ?_
    refine ev_ls (L' := [some (.ref 0), some (.int a1), some (.int 0), some (.int 0)]) (st' := []) (pc' := 8) hk (.istore_n 3) 1 rfl rfl rfl rfl ?_
    exact ev_iter (qX_labelShare_8 S xs I C Y Γ D O M ou od j a1 _) (fun X : (UInt32 ⊕ String) => y = (Sum.elim (fun v => ((.inl (some (.float v))), (zH I C Y Γ D O M ou od j))) (fun E => (.inr E, (zH I C Y Γ D O M ou od (j + 1)))) X : (Option Value ⊕ String) × px_H)) (fun s x hb hM => rX_labelShare_b8 hb hM) fu _ _ hx hM 
  · skip
    cases hx
    obtain rfl := hM
    exact ev_csX 340 1 hk rfl rfl (by decide) rfl rfl rfl rfl (rX_needBand hc7) rfl rfl
set_option maxRecDepth 2000 in
theorem rw_labelShare {S : Nat} {xs : Nat → Int32} {I : zI} {C : zC} {Y : Nat → Int32} {Γ : Nat → zG} {D : zD} {O : Nat → Int32} {M : zM} {ou : Nat → Int64} {od : Nat → UInt64} {j : Nat} {a1 : Int32} {X : Int32 × (Nat → UInt64) × Nat}   (hx : fw_labelShare Γ od j a1 = some X) : Ev S xs 390 0 [some (.ref 0), some (.int a1), some (.ref 262), none] [] (zH I C Y Γ D O M ou od j) (((.inl (some (.int X.1))), (zH I C Y Γ D O M ou X.2.1 X.2.2)) : (Option Value ⊕ String) × px_H) := by
  generalize hM : (((.inl (some (.int X.1))), (zH I C Y Γ D O M ou X.2.1 X.2.2)) : (Option Value ⊕ String) × px_H) = y
  replace hM := hM.symm
  have hk : pt_mt[390]? = some pt_r390 := rfl
  unfold fw_labelShare at hx
  refine ev_ls (L' := [some (.ref 0), some (.int a1), some (.ref 262), none]) (st' := [.ref 262]) (pc' := 1) hk (.aload_n 2) 1 rfl rfl rfl rfl ?_
  refine ev_op (st' := [.int 0, .ref 262]) (pc' := 2) hk (.iconst 0) 1 rfl rfl rfl ?_
  refine ev_ls (L' := [some (.ref 0), some (.int a1), some (.ref 262), none]) (st' := [.ref 0, .int 0, .ref 262]) (pc' := 3) hk (.aload_n 0) 1 rfl rfl rfl rfl ?_
  refine ev_ls (L' := [some (.ref 0), some (.int a1), some (.ref 262), none]) (st' := [.int a1, .ref 0, .int 0, .ref 262]) (pc' := 4) hk (.iload_n 1) 1 rfl rfl rfl rfl ?_
  rcases bnx_some hx with ⟨v5, hc3, hx⟩ | ⟨E4, hc3, hx⟩
  · skip
    refine ev_cv 332 1 [.float v5, .int 0, .ref 262] 7 hk rfl rfl rfl rfl lk_dh rfl rfl rfl (rX_labelShare hc3) rfl rfl rfl rfl ?_
    obtain ⟨v6, hv6, hx⟩ := bnd_some hx
    refine ev_fd 8 hk rfl hv6 rfl ?_
    obtain ⟨od7, hod7, hx⟩ := bnd_some hx
    have hod7 := Option.some.inj hod7
    refine ev_das (A := (vf_upd od 0 v6)) rfl 9 hk rfl lk_od (sa_od hod7) rfl ?_
    refine ev_jp (pc' := 15) (st' := []) hk (.goto 6) 3 rfl rfl rfl rfl rfl ?_
    refine ev_op (st' := [.int 0]) (pc' := 16) hk (.iconst 0) 1 rfl rfl rfl ?_
    cases hx
    obtain rfl := hM
    exact ev_retI hk rfl rfl
  · skip
    rcases ite_or hx with ⟨hE, hx⟩ | ⟨hE, hx⟩
    · subst hE
      refine ev_cvC 332 1 13 hk rfl rfl rfl rfl lk_dh rfl rfl rfl (t := 12) (by decide +kernel) (L' := [some (.ref 0), some (.int a1), some (.ref 262), none]) rfl (rX_labelShare hc3) rfl rfl ?_
      refine ev_op (st' := [.int 1]) (pc' := 14) hk (.iconst 1) 1 rfl rfl rfl ?_
      cases hx
      obtain rfl := hM
      exact ev_retI hk rfl rfl
    cases hx
def qM_covered_4 (S : Nat) (xs : Nat → Int32) (I : zI) (C : zC) (Y : Nat → Int32) (Γ : Nat → zG) (D : zD) (O : Nat → Int32) (M : zM) (ou : Nat → Int64) (od : Nat → UInt64) (j : Nat) (a1 : Int32) (y : (Option Value ⊕ String) × px_H) (s : Int32 × Int32) : Prop := Ev S xs 38 4 [some (.ref 247), some (.int a1), some (.int s.1), some (.int s.2)] [] (zH I C Y Γ D O M ou od j) y
set_option maxRecDepth 4000 in
theorem rM_covered_j27 {S : Nat} {xs : Nat → Int32} {I : zI} {C : zC} {Y : Nat → Int32} {Γ : Nat → zG} {D : zD} {O : Nat → Int32} {M : zM} {ou : Nat → Int64} {od : Nat → UInt64} {j : Nat} {a1 : Int32} {a3 : Int32} {a0t : Bool} {a1t : Int32} {y : (Option Value ⊕ String) × px_H} {x : (Int32 × Int32) ⊕ (Int32)}  (hx : fM_covered_j27 M a1 a3 a0t a1t = some x) (hM : (Sum.elim (qM_covered_4 S xs I C Y Γ D O M ou od j a1 y) (fun X : Int32 => y = (((.inl (some (.int X))), (zH I C Y Γ D O M ou od j)) : (Option Value ⊕ String) × px_H))) x) (u2 : Option Value) (hu2 : px_cz u2 = true) : Ev S xs 38 27 [some (.ref 247), some (.int a1), u2, some (.int a3)] [.int (b2i a0t), .int a1t] (zH I C Y Γ D O M ou od j) y := by
  have hk : pt_mt[38]? = some pt_r38 := rfl
  unfold fM_covered_j27 at hx
  refine ev_cs 189 1 [.int (fM_truth a0t), .int a1t] 30 hk rfl rfl (by decide) rfl rfl rfl (rM_truth rfl) rfl rfl rfl rfl ?_
  refine ev_op (st' := [.int (a1t + (fM_truth a0t))]) (pc' := 31) hk (.iadd) 1 rfl rfl rfl ?_
  refine ev_ls (L' := [some (.ref 247), some (.int a1), some (.int (a1t + (fM_truth a0t))), some (.int a3)]) (st' := []) (pc' := 32) hk (.istore_n 2) 1 rfl rfl rfl rfl ?_
  refine ev_ls (L' := [some (.ref 247), some (.int a1), some (.int (a1t + (fM_truth a0t))), some (.int (a3 + 1))]) (st' := []) (pc' := 35) hk (.iinc 3 1) 3 rfl rfl rfl rfl ?_
  refine ev_jp (pc' := 4) (st' := []) hk (.goto (-31)) 3 rfl rfl rfl rfl rfl ?_
  cases hx
  exact hM
set_option maxRecDepth 4000 in
theorem rM_covered_b4 {S : Nat} {xs : Nat → Int32} {I : zI} {C : zC} {Y : Nat → Int32} {Γ : Nat → zG} {D : zD} {O : Nat → Int32} {M : zM} {ou : Nat → Int64} {od : Nat → UInt64} {j : Nat} {a1 : Int32} {y : (Option Value ⊕ String) × px_H} {s : Int32 × Int32} {x : (Int32 × Int32) ⊕ (Int32)}  (hx : fM_covered_b4 M a1 s.1 s.2 = some x) (hM : (Sum.elim (qM_covered_4 S xs I C Y Γ D O M ou od j a1 y) (fun X : Int32 => y = (((.inl (some (.int X))), (zH I C Y Γ D O M ou od j)) : (Option Value ⊕ String) × px_H))) x) : qM_covered_4 S xs I C Y Γ D O M ou od j a1 y s := by
  obtain ⟨a2, a3⟩ := s
  have hk : pt_mt[38]? = some pt_r38 := rfl
  unfold fM_covered_b4 at hx
  try dsimp only at hx
  refine ev_ls (L' := [some (.ref 247), some (.int a1), some (.int a2), some (.int a3)]) (st' := [.int a3]) (pc' := 5) hk (.iload_n 3) 1 rfl rfl rfl rfl ?_
  refine ev_op (st' := [.int 360, .int a3]) (pc' := 8) hk (.sipush 360) 3 rfl rfl rfl ?_
  refine ev_d2 38 11 hk rfl rfl rfl rfl (px_cge hx (fun hc hx => ?_) (fun hc hx => ?_))
  · refine ev_ls (L' := [some (.ref 247), some (.int a1), some (.int a2), some (.int a3)]) (st' := [.int a2]) (pc' := 39) hk (.iload_n 2) 1 rfl rfl rfl rfl ?_
    cases hx
    obtain rfl := hM
    exact ev_retI hk rfl rfl
  · refine ev_ls (L' := [some (.ref 247), some (.int a1), some (.int a2), some (.int a3)]) (st' := [.int a2]) (pc' := 12) hk (.iload_n 2) 1 rfl rfl rfl rfl ?_
    refine ev_ls (L' := [some (.ref 247), some (.int a1), some (.int a2), some (.int a3)]) (st' := [.ref 247, .int a2]) (pc' := 13) hk (.aload_n 0) 1 rfl rfl rfl rfl ?_
    refine ev_ls (L' := [some (.ref 247), some (.int a1), some (.int a2), some (.int a3)]) (st' := [.int a1, .ref 247, .int a2]) (pc' := 14) hk (.iload_n 1) 1 rfl rfl rfl rfl ?_
    refine ev_ls (L' := [some (.ref 247), some (.int a1), some (.int a2), some (.int a3)]) (st' := [.int a3, .int a1, .ref 247, .int a2]) (pc' := 15) hk (.iload_n 3) 1 rfl rfl rfl rfl ?_
    obtain ⟨v1, hc2, hx⟩ := bnd_some hx
    refine ev_cv 113 2 [.int v1, .int a2] 18 hk rfl rfl rfl rfl lk_model rfl rfl rfl (rM_labelOn hc2) rfl rfl rfl rfl ?_
    refine ev_op (st' := [.int (-1), .int v1, .int a2]) (pc' := 19) hk (.iconst (-1)) 1 rfl rfl rfl ?_
    refine ev_d2 26 22 hk rfl rfl rfl rfl (px_ceq hx (fun hc hx => ?_) (fun hc hx => ?_))
    · refine ev_op (st' := [.int 0, .int a2]) (pc' := 27) hk (.iconst 0) 1 rfl rfl rfl ?_
      exact rM_covered_j27 hx hM (some (.int a2)) rfl
    · refine ev_op (st' := [.int 1, .int a2]) (pc' := 23) hk (.iconst 1) 1 rfl rfl rfl ?_
      refine ev_jp (pc' := 27) (st' := [.int 1, .int a2]) hk (.goto 4) 3 rfl rfl rfl rfl rfl ?_
      exact rM_covered_j27 hx hM (some (.int a2)) rfl
set_option maxRecDepth 2000 in
theorem rM_covered {S : Nat} {xs : Nat → Int32} {I : zI} {C : zC} {Y : Nat → Int32} {Γ : Nat → zG} {D : zD} {O : Nat → Int32} {M : zM} {ou : Nat → Int64} {od : Nat → UInt64} {j : Nat} {a1 : Int32} {X : Int32}   (hx : fM_covered M a1 = some X) : Ev S xs 38 0 [some (.ref 247), some (.int a1), none, none] [] (zH I C Y Γ D O M ou od j) (((.inl (some (.int X))), (zH I C Y Γ D O M ou od j)) : (Option Value ⊕ String) × px_H) := by
  generalize hM : (((.inl (some (.int X))), (zH I C Y Γ D O M ou od j)) : (Option Value ⊕ String) × px_H) = y
  replace hM := hM.symm
  have hk : pt_mt[38]? = some pt_r38 := rfl
  unfold fM_covered at hx
  refine ev_op (st' := [.int 0]) (pc' := 1) hk (.iconst 0) 1 rfl rfl rfl ?_
  refine ev_ls (L' := [some (.ref 247), some (.int a1), some (.int 0), none]) (st' := []) (pc' := 2) hk (.istore_n 2) 1 rfl rfl rfl rfl ?_
  refine ev_op (st' := [.int 0]) (pc' := 3) hk (.iconst 0) 1 rfl rfl rfl ?_
  refine ev_ls (L' := [some (.ref 247), some (.int a1), some (.int 0), some (.int 0)]) (st' := []) (pc' := 4) hk (.istore_n 3) 1 rfl rfl rfl rfl ?_
  exact ev_iter (qM_covered_4 S xs I C Y Γ D O M ou od j a1 _) (fun X : Int32 => y = (((.inl (some (.int X))), (zH I C Y Γ D O M ou od j)) : (Option Value ⊕ String) × px_H)) (fun s x hb hM => rM_covered_b4 hb hM) fu _ _ hx hM 
set_option maxRecDepth 2000 in
theorem rM_labelShare {S : Nat} {xs : Nat → Int32} {I : zI} {C : zC} {Y : Nat → Int32} {Γ : Nat → zG} {D : zD} {O : Nat → Int32} {M : zM} {ou : Nat → Int64} {od : Nat → UInt64} {j : Nat} {a1 : Int32} {X : UInt32 × zM}   (hx : fM_labelShare M a1 = some X) : Ev S xs 114 0 [some (.ref 247), some (.int a1)] [] (zH I C Y Γ D O M ou od j) (((.inl (some (.float X.1))), (zH I C Y Γ D O X.2 ou od j)) : (Option Value ⊕ String) × px_H) := by
  generalize hM : (((.inl (some (.float X.1))), (zH I C Y Γ D O X.2 ou od j)) : (Option Value ⊕ String) × px_H) = y
  replace hM := hM.symm
  have hk : pt_mt[114]? = some pt_r114 := rfl
  unfold fM_labelShare at hx
  refine ev_ls (L' := [some (.ref 247), some (.int a1)]) (st' := [.ref 247]) (pc' := 1) hk (.aload_n 0) 1 rfl rfl rfl rfl ?_
  refine ev_ls (L' := [some (.ref 247), some (.int a1)]) (st' := [.int a1, .ref 247]) (pc' := 2) hk (.iload_n 1) 1 rfl rfl rfl rfl ?_
  refine ev_cs 79 1 [.int (b2i (fM_isBand a1)), .ref 247] 5 hk rfl rfl (by decide) rfl rfl rfl (rM_isBand rfl) rfl rfl rfl rfl ?_
  obtain ⟨v3, M2, hc4, hx⟩ := bnd2_some hx
  refine ev_cv 59 1 [.int (b2i v3)] 8 hk rfl rfl rfl rfl lk_model rfl rfl rfl (rM_goes hc4) rfl rfl rfl rfl ?_
  refine ev_d1 24 11 hk rfl rfl rfl rfl (px_beq hx (fun hc hx => ?_) (fun hc hx => ?_))
  · refine ev_op (st' := [.float FP.fconst0]) (pc' := 25) hk (.fconst 0) 1 rfl rfl rfl ?_
    cases hx
    obtain rfl := hM
    exact ev_retF hk rfl rfl
  · refine ev_ls (L' := [some (.ref 247), some (.int a1)]) (st' := [.ref 247]) (pc' := 12) hk (.aload_n 0) 1 rfl rfl rfl rfl ?_
    refine ev_ls (L' := [some (.ref 247), some (.int a1)]) (st' := [.int a1, .ref 247]) (pc' := 13) hk (.iload_n 1) 1 rfl rfl rfl rfl ?_
    obtain ⟨v5, hc6, hx⟩ := bnd_some hx
    refine ev_cv 38 1 [.int v5] 16 hk rfl rfl rfl rfl lk_model rfl rfl rfl (rM_covered hc6) rfl rfl rfl rfl ?_
    refine ev_op (st' := [.float (FP.i2f v5)]) (pc' := 17) hk (.i2f) 1 rfl rfl rfl ?_
    refine ev_ldV 1135869952 20 hk rfl rfl rfl ?_
    obtain ⟨v7, hv7, hx⟩ := bnd_some hx
    refine ev_fdv 21 hk rfl hv7 rfl ?_
    refine ev_jp (pc' := 25) (st' := [.float v7]) hk (.goto 4) 3 rfl rfl rfl rfl rfl ?_
    cases hx
    obtain rfl := hM
    exact ev_retF hk rfl rfl
def qX_meanStitches_12 (S : Nat) (xs : Nat → Int32) (I : zI) (C : zC) (Y : Nat → Int32) (Γ : Nat → zG) (D : zD) (O : Nat → Int32) (M : zM) (ou : Nat → Int64) (od : Nat → UInt64) (j : Nat) (y : (Option Value ⊕ String) × px_H) (s : Int32 × Int32) : Prop := ∀ (u0 : Option Value) (hu0 : px_cz u0 = true), Ev S xs 334 12 [u0, some (.ref (10 + 1)), some (.int s.1), some (.int s.2)] [] (zH I C Y Γ D O M ou od j) y
set_option maxRecDepth 4000 in
theorem rX_meanStitches_b12 {S : Nat} {xs : Nat → Int32} {I : zI} {C : zC} {Y : Nat → Int32} {Γ : Nat → zG} {D : zD} {O : Nat → Int32} {M : zM} {ou : Nat → Int64} {od : Nat → UInt64} {j : Nat}  {y : (Option Value ⊕ String) × px_H} {s : Int32 × Int32} {x : (Int32 × Int32) ⊕ (UInt64)}  (hx : fX_meanStitches_b12 Γ s.1 s.2 = some x) (hM : (Sum.elim (qX_meanStitches_12 S xs I C Y Γ D O M ou od j y) (fun X : UInt64 => y = (((.inl (some (.double X))), (zH I C Y Γ D O M ou od j)) : (Option Value ⊕ String) × px_H))) x) : qX_meanStitches_12 S xs I C Y Γ D O M ou od j y s := by
  obtain ⟨a2, a3⟩ := s
  intro u0 hu0
  have hk : pt_mt[334]? = some pt_r334 := rfl
  unfold fX_meanStitches_b12 at hx
  try dsimp only at hx
  refine ev_ls (L' := [u0, some (.ref (10 + 1)), some (.int a2), some (.int a3)]) (st' := [.int a3]) (pc' := 13) hk (.iload_n 3) 1 rfl rfl rfl rfl ?_
  refine ev_ls (L' := [u0, some (.ref (10 + 1)), some (.int a2), some (.int a3)]) (st' := [.ref (10 + 1), .int a3]) (pc' := 14) hk (.aload_n 1) 1 rfl rfl rfl rfl ?_
  refine ev_gf (.int (gF (Γ 10) 1 0)) 17 hk rfl rfl (lk_cloth isG_10 rfl) rfl rfl ?_
  refine ev_d2 35 20 hk rfl rfl rfl rfl (px_cge hx (fun hc hx => ?_) (fun hc hx => ?_))
  · refine ev_ls (L' := [u0, some (.ref (10 + 1)), some (.int a2), some (.int a3)]) (st' := [.int a2]) (pc' := 36) hk (.iload_n 2) 1 rfl rfl rfl rfl ?_
    refine ev_op (st' := [.double (FP.i2d a2)]) (pc' := 37) hk (.i2d) 1 rfl rfl rfl ?_
    refine ev_ls (L' := [u0, some (.ref (10 + 1)), some (.int a2), some (.int a3)]) (st' := [.ref (10 + 1), .double (FP.i2d a2)]) (pc' := 38) hk (.aload_n 1) 1 rfl rfl rfl rfl ?_
    refine ev_gf (.int (gF (Γ 10) 1 0)) 41 hk rfl rfl (lk_cloth isG_10 rfl) rfl rfl ?_
    refine ev_op (st' := [.double (FP.i2d (gF (Γ 10) 1 0)), .double (FP.i2d a2)]) (pc' := 42) hk (.i2d) 1 rfl rfl rfl ?_
    obtain ⟨v4, hv4, hx⟩ := bnd_some hx
    refine ev_ddv 43 hk rfl hv4 rfl ?_
    cases hx
    obtain rfl := hM
    exact ev_retD hk rfl rfl
  · refine ev_ls (L' := [u0, some (.ref (10 + 1)), some (.int a2), some (.int a3)]) (st' := [.int a2]) (pc' := 21) hk (.iload_n 2) 1 rfl rfl rfl rfl ?_
    refine ev_ls (L' := [u0, some (.ref (10 + 1)), some (.int a2), some (.int a3)]) (st' := [.ref (10 + 1), .int a2]) (pc' := 22) hk (.aload_n 1) 1 rfl rfl rfl rfl ?_
    refine ev_gf (.ref (10 + 4)) 25 hk rfl rfl (lk_cloth isG_10 rfl) rfl rfl ?_
    refine ev_ls (L' := [u0, some (.ref (10 + 1)), some (.int a2), some (.int a3)]) (st' := [.int a3, .ref (10 + 4), .int a2]) (pc' := 26) hk (.iload_n 3) 1 rfl rfl rfl rfl ?_
    obtain ⟨v5, hv5, hx⟩ := bnd_some hx
    refine ev_ial hv5 27 hk rfl (lk_a4 isG_10 rfl) rfl ?_
    refine ev_op (st' := [.int (a2 + v5)]) (pc' := 28) hk (.iadd) 1 rfl rfl rfl ?_
    refine ev_ls (L' := [u0, some (.ref (10 + 1)), some (.int (a2 + v5)), some (.int a3)]) (st' := []) (pc' := 29) hk (.istore_n 2) 1 rfl rfl rfl rfl ?_
    refine ev_ls (L' := [u0, some (.ref (10 + 1)), some (.int (a2 + v5)), some (.int (a3 + 1))]) (st' := []) (pc' := 32) hk (.iinc 3 1) 3 rfl rfl rfl rfl ?_
    refine ev_jp (pc' := 12) (st' := []) hk (.goto (-20)) 3 rfl rfl rfl rfl rfl ?_
    cases hx
    exact hM u0 hu0
set_option maxRecDepth 2000 in
theorem rX_meanStitches {S : Nat} {xs : Nat → Int32} {I : zI} {C : zC} {Y : Nat → Int32} {Γ : Nat → zG} {D : zD} {O : Nat → Int32} {M : zM} {ou : Nat → Int64} {od : Nat → UInt64} {j : Nat}  {X : UInt64}   (hx : fX_meanStitches Γ = some X) : Ev S xs 334 0 [some (.ref 0), none, none, none] [] (zH I C Y Γ D O M ou od j) (((.inl (some (.double X))), (zH I C Y Γ D O M ou od j)) : (Option Value ⊕ String) × px_H) := by
  generalize hM : (((.inl (some (.double X))), (zH I C Y Γ D O M ou od j)) : (Option Value ⊕ String) × px_H) = y
  replace hM := hM.symm
  have hk : pt_mt[334]? = some pt_r334 := rfl
  unfold fX_meanStitches at hx
  refine ev_ls (L' := [some (.ref 0), none, none, none]) (st' := [.ref 0]) (pc' := 1) hk (.aload_n 0) 1 rfl rfl rfl rfl ?_
  refine ev_gf (.ref 10) 4 hk rfl rfl lk_dh rfl rfl ?_
  refine ev_gf (.ref (10 + 1)) 7 hk rfl rfl (lk_globe isG_10 rfl) rfl rfl ?_
  refine ev_ls (L' := [some (.ref 0), some (.ref (10 + 1)), none, none]) (st' := []) (pc' := 8) hk (.astore_n 1) 1 rfl rfl rfl rfl ?_
  refine ev_op (st' := [.int 0]) (pc' := 9) hk (.iconst 0) 1 rfl rfl rfl ?_
  refine ev_ls (L' := [some (.ref 0), some (.ref (10 + 1)), some (.int 0), none]) (st' := []) (pc' := 10) hk (.istore_n 2) 1 rfl rfl rfl rfl ?_
  refine ev_op (st' := [.int 0]) (pc' := 11) hk (.iconst 0) 1 rfl rfl rfl ?_
  refine ev_ls (L' := [some (.ref 0), some (.ref (10 + 1)), some (.int 0), some (.int 0)]) (st' := []) (pc' := 12) hk (.istore_n 3) 1 rfl rfl rfl rfl ?_
  exact ev_iter (qX_meanStitches_12 S xs I C Y Γ D O M ou od j _) (fun X : UInt64 => y = (((.inl (some (.double X))), (zH I C Y Γ D O M ou od j)) : (Option Value ⊕ String) × px_H)) (fun s x hb hM => rX_meanStitches_b12 hb hM) fu _ _ hx hM (some (.ref 0)) rfl
def qM_meanStitches_9 (S : Nat) (xs : Nat → Int32) (I : zI) (C : zC) (Y : Nat → Int32) (Γ : Nat → zG) (D : zD) (O : Nat → Int32) (M : zM) (ou : Nat → Int64) (od : Nat → UInt64) (j : Nat) (y : (Option Value ⊕ String) × px_H) (s : Int32 × Int32) : Prop := Ev S xs 133 9 [some (.ref 247), some (.int s.1), some (.int s.2)] [] (zH I C Y Γ D O M ou od j) y
set_option maxRecDepth 4000 in
theorem rM_meanStitches_b9 {S : Nat} {xs : Nat → Int32} {I : zI} {C : zC} {Y : Nat → Int32} {Γ : Nat → zG} {D : zD} {O : Nat → Int32} {M : zM} {ou : Nat → Int64} {od : Nat → UInt64} {j : Nat}  {y : (Option Value ⊕ String) × px_H} {s : Int32 × Int32} {x : (Int32 × Int32) ⊕ (UInt64 × zM)}  (hx : fM_meanStitches_b9 M s.1 s.2 = some x) (hM : (Sum.elim (qM_meanStitches_9 S xs I C Y Γ D O M ou od j y) (fun X : UInt64 × zM => y = (((.inl (some (.double X.1))), (zH I C Y Γ D O X.2 ou od j)) : (Option Value ⊕ String) × px_H))) x) : qM_meanStitches_9 S xs I C Y Γ D O M ou od j y s := by
  obtain ⟨a1, a2⟩ := s
  have hk : pt_mt[133]? = some pt_r133 := rfl
  unfold fM_meanStitches_b9 at hx
  try dsimp only at hx
  refine ev_ls (L' := [some (.ref 247), some (.int a1), some (.int a2)]) (st' := [.int a2]) (pc' := 10) hk (.iload_n 2) 1 rfl rfl rfl rfl ?_
  refine ev_ls (L' := [some (.ref 247), some (.int a1), some (.int a2)]) (st' := [.ref 247, .int a2]) (pc' := 11) hk (.aload_n 0) 1 rfl rfl rfl rfl ?_
  refine ev_gf (.ref 249) 14 hk rfl rfl lk_model rfl rfl ?_
  refine ev_op (st' := [.int 0, .ref 249, .int a2]) (pc' := 15) hk (.iconst 0) 1 rfl rfl rfl ?_
  refine ev_ial (v := ((mA M 249) 0)) rfl 16 hk rfl lk_m249 rfl ?_
  refine ev_d2 37 19 hk rfl rfl rfl rfl (px_cge hx (fun hc hx => ?_) (fun hc hx => ?_))
  · refine ev_ls (L' := [some (.ref 247), some (.int a1), some (.int a2)]) (st' := [.int a1]) (pc' := 38) hk (.iload_n 1) 1 rfl rfl rfl rfl ?_
    refine ev_op (st' := [.double (FP.i2d a1)]) (pc' := 39) hk (.i2d) 1 rfl rfl rfl ?_
    refine ev_ls (L' := [some (.ref 247), some (.int a1), some (.int a2)]) (st' := [.ref 247, .double (FP.i2d a1)]) (pc' := 40) hk (.aload_n 0) 1 rfl rfl rfl rfl ?_
    refine ev_gf (.ref 249) 43 hk rfl rfl lk_model rfl rfl ?_
    refine ev_op (st' := [.int 0, .ref 249, .double (FP.i2d a1)]) (pc' := 44) hk (.iconst 0) 1 rfl rfl rfl ?_
    refine ev_ial (v := ((mA M 249) 0)) rfl 45 hk rfl lk_m249 rfl ?_
    refine ev_op (st' := [.double (FP.i2d ((mA M 249) 0)), .double (FP.i2d a1)]) (pc' := 46) hk (.i2d) 1 rfl rfl rfl ?_
    obtain ⟨v6, hv6, hx⟩ := bnd_some hx
    refine ev_ddv 47 hk rfl hv6 rfl ?_
    cases hx
    obtain rfl := hM
    exact ev_retD hk rfl rfl
  · refine ev_ls (L' := [some (.ref 247), some (.int a1), some (.int a2)]) (st' := [.int a1]) (pc' := 20) hk (.iload_n 1) 1 rfl rfl rfl rfl ?_
    refine ev_ls (L' := [some (.ref 247), some (.int a1), some (.int a2)]) (st' := [.ref 247, .int a1]) (pc' := 21) hk (.aload_n 0) 1 rfl rfl rfl rfl ?_
    refine ev_gf (.ref 249) 24 hk rfl rfl lk_model rfl rfl ?_
    refine ev_op (st' := [.int 26, .ref 249, .int a1]) (pc' := 26) hk (.bipush 26) 2 rfl rfl rfl ?_
    refine ev_ls (L' := [some (.ref 247), some (.int a1), some (.int a2)]) (st' := [.int a2, .int 26, .ref 249, .int a1]) (pc' := 27) hk (.iload_n 2) 1 rfl rfl rfl rfl ?_
    refine ev_op (st' := [.int (26 + a2), .ref 249, .int a1]) (pc' := 28) hk (.iadd) 1 rfl rfl rfl ?_
    obtain ⟨v7, hv7, hx⟩ := bnd_some hx
    refine ev_ial hv7 29 hk rfl lk_m249 rfl ?_
    refine ev_op (st' := [.int (a1 + v7)]) (pc' := 30) hk (.iadd) 1 rfl rfl rfl ?_
    refine ev_ls (L' := [some (.ref 247), some (.int (a1 + v7)), some (.int a2)]) (st' := []) (pc' := 31) hk (.istore_n 1) 1 rfl rfl rfl rfl ?_
    refine ev_ls (L' := [some (.ref 247), some (.int (a1 + v7)), some (.int (a2 + 1))]) (st' := []) (pc' := 34) hk (.iinc 2 1) 3 rfl rfl rfl rfl ?_
    refine ev_jp (pc' := 9) (st' := []) hk (.goto (-25)) 3 rfl rfl rfl rfl rfl ?_
    cases hx
    exact hM
set_option maxRecDepth 2000 in
theorem rM_meanStitches {S : Nat} {xs : Nat → Int32} {I : zI} {C : zC} {Y : Nat → Int32} {Γ : Nat → zG} {D : zD} {O : Nat → Int32} {M : zM} {ou : Nat → Int64} {od : Nat → UInt64} {j : Nat}  {X : UInt64 × zM}   (hx : fM_meanStitches M = some X) : Ev S xs 133 0 [some (.ref 247), none, none] [] (zH I C Y Γ D O M ou od j) (((.inl (some (.double X.1))), (zH I C Y Γ D O X.2 ou od j)) : (Option Value ⊕ String) × px_H) := by
  generalize hM : (((.inl (some (.double X.1))), (zH I C Y Γ D O X.2 ou od j)) : (Option Value ⊕ String) × px_H) = y
  replace hM := hM.symm
  have hk : pt_mt[133]? = some pt_r133 := rfl
  unfold fM_meanStitches at hx
  refine ev_ls (L' := [some (.ref 247), none, none]) (st' := [.ref 247]) (pc' := 1) hk (.aload_n 0) 1 rfl rfl rfl rfl ?_
  refine ev_op (st' := [.int 0, .ref 247]) (pc' := 2) hk (.iconst 0) 1 rfl rfl rfl ?_
  obtain ⟨M8, hM8, hx⟩ := bnd_some hx
  have hM8 := Option.some.inj hM8
  refine ev_pf 5 hk rfl rfl lk_model rfl rfl rfl (sf_8_0 hM8) rfl ?_
  refine ev_op (st' := [.int 0]) (pc' := 6) hk (.iconst 0) 1 rfl rfl rfl ?_
  refine ev_ls (L' := [some (.ref 247), some (.int 0), none]) (st' := []) (pc' := 7) hk (.istore_n 1) 1 rfl rfl rfl rfl ?_
  refine ev_op (st' := [.int 0]) (pc' := 8) hk (.iconst 0) 1 rfl rfl rfl ?_
  refine ev_ls (L' := [some (.ref 247), some (.int 0), some (.int 0)]) (st' := []) (pc' := 9) hk (.istore_n 2) 1 rfl rfl rfl rfl ?_
  exact ev_iter (qM_meanStitches_9 S xs I C Y Γ D O M8 ou od j _) (fun X : UInt64 × zM => y = (((.inl (some (.double X.1))), (zH I C Y Γ D O X.2 ou od j)) : (Option Value ⊕ String) × px_H)) (fun s x hb hM => rM_meanStitches_b9 hb hM) fu _ _ hx hM 
def qG_countWrongDiaries_4 (S : Nat) (xs : Nat → Int32) (I : zI) (C : zC) (Y : Nat → Int32) (Γ : Nat → zG) (D : zD) (O : Nat → Int32) (M : zM) (ou : Nat → Int64) (od : Nat → UInt64) (j : Nat) (g : Nat) (G : zG) (y : (Option Value ⊕ String) × px_H) (s : Int32 × Int32) : Prop := ∀ (u3 : Option Value) (hu3 : px_cz u3 = true), Ev S xs 220 4 [some (.ref g), some (.int s.1), some (.int s.2), u3] [] (zH I C Y (gup Γ g G) D O M ou od j) y
set_option maxRecDepth 4000 in
theorem rG_countWrongDiaries_b4 {S : Nat} {xs : Nat → Int32} {I : zI} {C : zC} {Y : Nat → Int32} {Γ : Nat → zG} {D : zD} {O : Nat → Int32} {M : zM} {ou : Nat → Int64} {od : Nat → UInt64} {j : Nat} {g : Nat} {G : zG}  {y : (Option Value ⊕ String) × px_H} {s : Int32 × Int32} {x : (Int32 × Int32) ⊕ (Int32)} (hg : isG g) (hx : fG_countWrongDiaries_b4 G s.1 s.2 = some x) (hM : (Sum.elim (qG_countWrongDiaries_4 S xs I C Y Γ D O M ou od j g G y) (fun X : Int32 => y = (((.inl (some (.int X))), (zH I C Y (gup Γ g G) D O M ou od j)) : (Option Value ⊕ String) × px_H))) x) : qG_countWrongDiaries_4 S xs I C Y Γ D O M ou od j g G y s := by
  obtain ⟨a1, a2⟩ := s
  intro u3 hu3
  have hk : pt_mt[220]? = some pt_r220 := rfl
  unfold fG_countWrongDiaries_b4 at hx
  try dsimp only at hx
  refine ev_ls (L' := [some (.ref g), some (.int a1), some (.int a2), u3]) (st' := [.int a2]) (pc' := 5) hk (.iload_n 2) 1 rfl rfl rfl rfl ?_
  refine ev_ls (L' := [some (.ref g), some (.int a1), some (.int a2), u3]) (st' := [.ref g, .int a2]) (pc' := 6) hk (.aload_n 0) 1 rfl rfl rfl rfl ?_
  refine ev_gf (.int (gF G 0 4)) 9 hk rfl rfl (lk_globe hg gup_same) rfl rfl ?_
  refine ev_d2 54 12 hk rfl rfl rfl rfl (px_cge hx (fun hc hx => ?_) (fun hc hx => ?_))
  · refine ev_ls (L' := [some (.ref g), some (.int a1), some (.int a2), u3]) (st' := [.int a1]) (pc' := 55) hk (.iload_n 1) 1 rfl rfl rfl rfl ?_
    cases hx
    obtain rfl := hM
    exact ev_retI hk rfl rfl
  · refine ev_ls (L' := [some (.ref g), some (.int a1), some (.int a2), u3]) (st' := [.ref g]) (pc' := 13) hk (.aload_n 0) 1 rfl rfl rfl rfl ?_
    refine ev_gf (.ref (g + 6)) 16 hk rfl rfl (lk_globe hg gup_same) rfl rfl ?_
    refine ev_ls (L' := [some (.ref g), some (.int a1), some (.int a2), u3]) (st' := [.int a2, .ref (g + 6)]) (pc' := 17) hk (.iload_n 2) 1 rfl rfl rfl rfl ?_
    obtain ⟨p3, hp3, hx⟩ := bnd_some hx
    have hpp3 := rix_lt hp3
    refine ev_aal (g + (7 + p3)) hp3 18 hk rfl (lk_spots hg gup_same) (by decide) (lk_sp hpp3) rfl ?_
    refine ev_ls (L' := [some (.ref g), some (.int a1), some (.int a2), some (.ref (g + (7 + p3)))]) (st' := []) (pc' := 19) hk (.astore_n 3) 1 rfl rfl rfl rfl ?_
    refine ev_ls (L' := [some (.ref g), some (.int a1), some (.int a2), some (.ref (g + (7 + p3)))]) (st' := [.ref (g + (7 + p3))]) (pc' := 20) hk (.aload_n 3) 1 rfl rfl rfl rfl ?_
    refine ev_gf (.int (b2i (gB G (7 + p3)))) 23 hk rfl rfl (lk_spot hg hpp3 gup_same) rfl rfl ?_
    refine ev_d1 48 26 hk rfl rfl rfl rfl (px_beq hx (fun hc hx => ?_) (fun hc hx => ?_))
    · refine ev_ls (L' := [some (.ref g), some (.int a1), some (.int (a2 + 1)), some (.ref (g + (7 + p3)))]) (st' := []) (pc' := 51) hk (.iinc 2 1) 3 rfl rfl rfl rfl ?_
      refine ev_jp (pc' := 4) (st' := []) hk (.goto (-47)) 3 rfl rfl rfl rfl rfl ?_
      cases hx
      exact hM (some (.ref (g + (7 + p3)))) rfl
    · refine ev_ls (L' := [some (.ref g), some (.int a1), some (.int a2), some (.ref (g + (7 + p3)))]) (st' := [.ref (g + (7 + p3))]) (pc' := 27) hk (.aload_n 3) 1 rfl rfl rfl rfl ?_
      refine ev_gf (.int (gF G (7 + p3) 4)) 30 hk rfl rfl (lk_spot hg hpp3 gup_same) rfl rfl ?_
      refine ev_ls (L' := [some (.ref g), some (.int a1), some (.int a2), some (.ref (g + (7 + p3)))]) (st' := [.ref g, .int (gF G (7 + p3) 4)]) (pc' := 31) hk (.aload_n 0) 1 rfl rfl rfl rfl ?_
      refine ev_ls (L' := [some (.ref g), some (.int a1), some (.int a2), some (.ref (g + (7 + p3)))]) (st' := [.ref (g + (7 + p3)), .ref g, .int (gF G (7 + p3) 4)]) (pc' := 32) hk (.aload_n 3) 1 rfl rfl rfl rfl ?_
      refine ev_gf (.int (gF G (7 + p3) 2)) 35 hk rfl rfl (lk_spot hg hpp3 gup_same) rfl rfl ?_
      refine ev_ls (L' := [some (.ref g), some (.int a1), some (.int a2), some (.ref (g + (7 + p3)))]) (st' := [.ref (g + (7 + p3)), .int (gF G (7 + p3) 2), .ref g, .int (gF G (7 + p3) 4)]) (pc' := 36) hk (.aload_n 3) 1 rfl rfl rfl rfl ?_
      refine ev_gf (.int (gF G (7 + p3) 3)) 39 hk rfl rfl (lk_spot hg hpp3 gup_same) rfl rfl ?_
      obtain ⟨v4, hc5, hx⟩ := bnd_some hx
      refine ev_cv 235 2 [.int v4, .int (gF G (7 + p3) 4)] 42 hk rfl rfl rfl rfl (lk_globe hg gup_same) rfl rfl rfl (rG_localDay hg hc5) rfl rfl rfl rfl ?_
      refine ev_d2 48 45 hk rfl rfl rfl rfl (px_ceq hx (fun hc hx => ?_) (fun hc hx => ?_))
      · refine ev_ls (L' := [some (.ref g), some (.int a1), some (.int (a2 + 1)), some (.ref (g + (7 + p3)))]) (st' := []) (pc' := 51) hk (.iinc 2 1) 3 rfl rfl rfl rfl ?_
        refine ev_jp (pc' := 4) (st' := []) hk (.goto (-47)) 3 rfl rfl rfl rfl rfl ?_
        cases hx
        exact hM (some (.ref (g + (7 + p3)))) rfl
      · refine ev_ls (L' := [some (.ref g), some (.int (a1 + 1)), some (.int a2), some (.ref (g + (7 + p3)))]) (st' := []) (pc' := 48) hk (.iinc 1 1) 3 rfl rfl rfl rfl ?_
        refine ev_ls (L' := [some (.ref g), some (.int (a1 + 1)), some (.int (a2 + 1)), some (.ref (g + (7 + p3)))]) (st' := []) (pc' := 51) hk (.iinc 2 1) 3 rfl rfl rfl rfl ?_
        refine ev_jp (pc' := 4) (st' := []) hk (.goto (-47)) 3 rfl rfl rfl rfl rfl ?_
        cases hx
        exact hM (some (.ref (g + (7 + p3)))) rfl
set_option maxRecDepth 2000 in
theorem rG_countWrongDiaries {S : Nat} {xs : Nat → Int32} {I : zI} {C : zC} {Y : Nat → Int32} {Γ : Nat → zG} {D : zD} {O : Nat → Int32} {M : zM} {ou : Nat → Int64} {od : Nat → UInt64} {j : Nat} {g : Nat} {G : zG}  {X : Int32}  (hg : isG g) (hx : fG_countWrongDiaries G = some X) : Ev S xs 220 0 [some (.ref g), none, none, none] [] (zH I C Y (gup Γ g G) D O M ou od j) (((.inl (some (.int X))), (zH I C Y (gup Γ g G) D O M ou od j)) : (Option Value ⊕ String) × px_H) := by
  generalize hM : (((.inl (some (.int X))), (zH I C Y (gup Γ g G) D O M ou od j)) : (Option Value ⊕ String) × px_H) = y
  replace hM := hM.symm
  have hk : pt_mt[220]? = some pt_r220 := rfl
  unfold fG_countWrongDiaries at hx
  refine ev_op (st' := [.int 0]) (pc' := 1) hk (.iconst 0) 1 rfl rfl rfl ?_
  refine ev_ls (L' := [some (.ref g), some (.int 0), none, none]) (st' := []) (pc' := 2) hk (.istore_n 1) 1 rfl rfl rfl rfl ?_
  refine ev_op (st' := [.int 0]) (pc' := 3) hk (.iconst 0) 1 rfl rfl rfl ?_
  refine ev_ls (L' := [some (.ref g), some (.int 0), some (.int 0), none]) (st' := []) (pc' := 4) hk (.istore_n 2) 1 rfl rfl rfl rfl ?_
  exact ev_iter (qG_countWrongDiaries_4 S xs I C Y Γ D O M ou od j g G _) (fun X : Int32 => y = (((.inl (some (.int X))), (zH I C Y (gup Γ g G) D O M ou od j)) : (Option Value ⊕ String) × px_H)) (fun s x hb hM => rG_countWrongDiaries_b4 hg hb hM) fu _ _ hx hM none rfl
def qG_countWrongDays_4 (S : Nat) (xs : Nat → Int32) (I : zI) (C : zC) (Y : Nat → Int32) (Γ : Nat → zG) (D : zD) (O : Nat → Int32) (M : zM) (ou : Nat → Int64) (od : Nat → UInt64) (j : Nat) (g : Nat) (G : zG) (y : (Option Value ⊕ String) × px_H) (s : Int32 × Int32) : Prop := ∀ (u3 : Option Value) (hu3 : px_cz u3 = true), Ev S xs 219 4 [some (.ref g), some (.int s.1), some (.int s.2), u3] [] (zH I C Y (gup Γ g G) D O M ou od j) y
set_option maxRecDepth 4000 in
theorem rG_countWrongDays_b4 {S : Nat} {xs : Nat → Int32} {I : zI} {C : zC} {Y : Nat → Int32} {Γ : Nat → zG} {D : zD} {O : Nat → Int32} {M : zM} {ou : Nat → Int64} {od : Nat → UInt64} {j : Nat} {g : Nat} {G : zG}  {y : (Option Value ⊕ String) × px_H} {s : Int32 × Int32} {x : (Int32 × Int32) ⊕ (Int32)} (hg : isG g) (hx : fG_countWrongDays_b4 G s.1 s.2 = some x) (hM : (Sum.elim (qG_countWrongDays_4 S xs I C Y Γ D O M ou od j g G y) (fun X : Int32 => y = (((.inl (some (.int X))), (zH I C Y (gup Γ g G) D O M ou od j)) : (Option Value ⊕ String) × px_H))) x) : qG_countWrongDays_4 S xs I C Y Γ D O M ou od j g G y s := by
  obtain ⟨a1, a2⟩ := s
  intro u3 hu3
  have hk : pt_mt[219]? = some pt_r219 := rfl
  unfold fG_countWrongDays_b4 at hx
  try dsimp only at hx
  refine ev_ls (L' := [some (.ref g), some (.int a1), some (.int a2), u3]) (st' := [.int a2]) (pc' := 5) hk (.iload_n 2) 1 rfl rfl rfl rfl ?_
  refine ev_op (st' := [.int 9, .int a2]) (pc' := 7) hk (.bipush 9) 2 rfl rfl rfl ?_
  refine ev_d2 58 10 hk rfl rfl rfl rfl (px_cge hx (fun hc hx => ?_) (fun hc hx => ?_))
  · refine ev_ls (L' := [some (.ref g), some (.int a1), some (.int a2), u3]) (st' := [.int a1]) (pc' := 59) hk (.iload_n 1) 1 rfl rfl rfl rfl ?_
    cases hx
    obtain rfl := hM
    exact ev_retI hk rfl rfl
  · refine ev_ls (L' := [some (.ref g), some (.int a1), some (.int a2), u3]) (st' := [.ref g]) (pc' := 11) hk (.aload_n 0) 1 rfl rfl rfl rfl ?_
    refine ev_gf (.int (gF G 0 2)) 14 hk rfl rfl (lk_globe hg gup_same) rfl rfl ?_
    refine ev_ls (L' := [some (.ref g), some (.int a1), some (.int a2), u3]) (st' := [.ref g, .int (gF G 0 2)]) (pc' := 15) hk (.aload_n 0) 1 rfl rfl rfl rfl ?_
    refine ev_gf (.ref (g + 5)) 18 hk rfl rfl (lk_globe hg gup_same) rfl rfl ?_
    refine ev_ls (L' := [some (.ref g), some (.int a1), some (.int a2), u3]) (st' := [.int a2, .ref (g + 5), .int (gF G 0 2)]) (pc' := 19) hk (.iload_n 2) 1 rfl rfl rfl rfl ?_
    obtain ⟨v3, hv3, hx⟩ := bnd_some hx
    refine ev_ial hv3 20 hk rfl (lk_a5 hg gup_same) rfl ?_
    refine ev_op (st' := [.int 15, .int v3, .int (gF G 0 2)]) (pc' := 22) hk (.bipush 15) 2 rfl rfl rfl ?_
    obtain ⟨v4, hc5, hx⟩ := bnd_some hx
    refine ev_cs 1 2 [.int v4, .int (gF G 0 2)] 25 hk rfl rfl (by decide) rfl rfl rfl (rJ_floorDiv_7cf53 hc5) rfl rfl rfl rfl ?_
    refine ev_op (st' := [.int ((gF G 0 2) + v4)]) (pc' := 26) hk (.iadd) 1 rfl rfl rfl ?_
    refine ev_op (st' := [.int 24, .int ((gF G 0 2) + v4)]) (pc' := 28) hk (.bipush 24) 2 rfl rfl rfl ?_
    obtain ⟨v6, hc7, hx⟩ := bnd_some hx
    refine ev_cs 1 2 [.int v6] 31 hk rfl rfl (by decide) rfl rfl rfl (rJ_floorDiv_7cf53 hc7) rfl rfl rfl rfl ?_
    refine ev_ls (L' := [some (.ref g), some (.int a1), some (.int a2), some (.int v6)]) (st' := []) (pc' := 32) hk (.istore_n 3) 1 rfl rfl rfl rfl ?_
    refine ev_ls (L' := [some (.ref g), some (.int a1), some (.int a2), some (.int v6)]) (st' := [.ref g]) (pc' := 33) hk (.aload_n 0) 1 rfl rfl rfl rfl ?_
    refine ev_ls (L' := [some (.ref g), some (.int a1), some (.int a2), some (.int v6)]) (st' := [.int a2, .ref g]) (pc' := 34) hk (.iload_n 2) 1 rfl rfl rfl rfl ?_
    refine ev_ls (L' := [some (.ref g), some (.int a1), some (.int a2), some (.int v6)]) (st' := [.ref g, .int a2, .ref g]) (pc' := 35) hk (.aload_n 0) 1 rfl rfl rfl rfl ?_
    refine ev_gf (.ref (g + 5)) 38 hk rfl rfl (lk_globe hg gup_same) rfl rfl ?_
    refine ev_ls (L' := [some (.ref g), some (.int a1), some (.int a2), some (.int v6)]) (st' := [.int a2, .ref (g + 5), .int a2, .ref g]) (pc' := 39) hk (.iload_n 2) 1 rfl rfl rfl rfl ?_
    obtain ⟨v8, hv8, hx⟩ := bnd_some hx
    refine ev_ial hv8 40 hk rfl (lk_a5 hg gup_same) rfl ?_
    obtain ⟨v9, hc10, hx⟩ := bnd_some hx
    refine ev_cv 235 2 [.int v9] 43 hk rfl rfl rfl rfl (lk_globe hg gup_same) rfl rfl rfl (rG_localDay hg hc10) rfl rfl rfl rfl ?_
    refine ev_ls (L' := [some (.ref g), some (.int a1), some (.int a2), some (.int v6)]) (st' := [.int v6, .int v9]) (pc' := 44) hk (.iload_n 3) 1 rfl rfl rfl rfl ?_
    refine ev_op (st' := [.int 1, .int v6, .int v9]) (pc' := 45) hk (.iconst 1) 1 rfl rfl rfl ?_
    refine ev_op (st' := [.int (v6 - 1), .int v9]) (pc' := 46) hk (.isub) 1 rfl rfl rfl ?_
    refine ev_d2 52 49 hk rfl rfl rfl rfl (px_ceq hx (fun hc hx => ?_) (fun hc hx => ?_))
    · refine ev_ls (L' := [some (.ref g), some (.int a1), some (.int (a2 + 1)), some (.int v6)]) (st' := []) (pc' := 55) hk (.iinc 2 1) 3 rfl rfl rfl rfl ?_
      refine ev_jp (pc' := 4) (st' := []) hk (.goto (-51)) 3 rfl rfl rfl rfl rfl ?_
      cases hx
      exact hM (some (.int v6)) rfl
    · refine ev_ls (L' := [some (.ref g), some (.int (a1 + 1)), some (.int a2), some (.int v6)]) (st' := []) (pc' := 52) hk (.iinc 1 1) 3 rfl rfl rfl rfl ?_
      refine ev_ls (L' := [some (.ref g), some (.int (a1 + 1)), some (.int (a2 + 1)), some (.int v6)]) (st' := []) (pc' := 55) hk (.iinc 2 1) 3 rfl rfl rfl rfl ?_
      refine ev_jp (pc' := 4) (st' := []) hk (.goto (-51)) 3 rfl rfl rfl rfl rfl ?_
      cases hx
      exact hM (some (.int v6)) rfl
set_option maxRecDepth 2000 in
theorem rG_countWrongDays {S : Nat} {xs : Nat → Int32} {I : zI} {C : zC} {Y : Nat → Int32} {Γ : Nat → zG} {D : zD} {O : Nat → Int32} {M : zM} {ou : Nat → Int64} {od : Nat → UInt64} {j : Nat} {g : Nat} {G : zG}  {X : Int32}  (hg : isG g) (hx : fG_countWrongDays G = some X) : Ev S xs 219 0 [some (.ref g), none, none, none] [] (zH I C Y (gup Γ g G) D O M ou od j) (((.inl (some (.int X))), (zH I C Y (gup Γ g G) D O M ou od j)) : (Option Value ⊕ String) × px_H) := by
  generalize hM : (((.inl (some (.int X))), (zH I C Y (gup Γ g G) D O M ou od j)) : (Option Value ⊕ String) × px_H) = y
  replace hM := hM.symm
  have hk : pt_mt[219]? = some pt_r219 := rfl
  unfold fG_countWrongDays at hx
  refine ev_op (st' := [.int 0]) (pc' := 1) hk (.iconst 0) 1 rfl rfl rfl ?_
  refine ev_ls (L' := [some (.ref g), some (.int 0), none, none]) (st' := []) (pc' := 2) hk (.istore_n 1) 1 rfl rfl rfl rfl ?_
  refine ev_op (st' := [.int 0]) (pc' := 3) hk (.iconst 0) 1 rfl rfl rfl ?_
  refine ev_ls (L' := [some (.ref g), some (.int 0), some (.int 0), none]) (st' := []) (pc' := 4) hk (.istore_n 2) 1 rfl rfl rfl rfl ?_
  exact ev_iter (qG_countWrongDays_4 S xs I C Y Γ D O M ou od j g G _) (fun X : Int32 => y = (((.inl (some (.int X))), (zH I C Y (gup Γ g G) D O M ou od j)) : (Option Value ⊕ String) × px_H)) (fun s x hb hM => rG_countWrongDays_b4 hg hb hM) fu _ _ hx hM none rfl
def qG_countWrongLabels_4 (S : Nat) (xs : Nat → Int32) (I : zI) (C : zC) (Y : Nat → Int32) (Γ : Nat → zG) (D : zD) (O : Nat → Int32) (M : zM) (ou : Nat → Int64) (od : Nat → UInt64) (j : Nat) (g : Nat) (G : zG) (y : (Option Value ⊕ String) × px_H) (s : Int32 × Int32) : Prop := ∀ (u3 : Option Value) (hu3 : px_cz u3 = true) (u4 : Option Value) (hu4 : px_cz u4 = true), Ev S xs 221 4 [some (.ref g), some (.int s.1), some (.int s.2), u3, u4] [] (zH I C Y (gup Γ g G) D O M ou od j) y
def qG_countWrongLabels_39 (S : Nat) (xs : Nat → Int32) (I : zI) (C : zC) (Y : Nat → Int32) (Γ : Nat → zG) (D : zD) (O : Nat → Int32) (M : zM) (ou : Nat → Int64) (od : Nat → UInt64) (j : Nat) (g : Nat) (G : zG) (a1 : Int32) (a2 : Int32) (y : (Option Value ⊕ String) × px_H) (s : Bool × Int32) : Prop := Ev S xs 221 39 [some (.ref g), some (.int a1), some (.int a2), some (.int (b2i s.1)), some (.int s.2)] [] (zH I C Y (gup Γ g G) D O M ou od j) y
set_option maxRecDepth 4000 in
theorem rG_countWrongLabels_b39 {S : Nat} {xs : Nat → Int32} {I : zI} {C : zC} {Y : Nat → Int32} {Γ : Nat → zG} {D : zD} {O : Nat → Int32} {M : zM} {ou : Nat → Int64} {od : Nat → UInt64} {j : Nat} {g : Nat} {G : zG} {a1 : Int32} {a2 : Int32} {y : (Option Value ⊕ String) × px_H} {s : Bool × Int32} {x : (Bool × Int32) ⊕ ((Int32 × Int32) ⊕ (Int32))} (hg : isG g) (hx : fG_countWrongLabels_b39 G a1 a2 s.1 s.2 = some x) (hM : (Sum.elim (qG_countWrongLabels_39 S xs I C Y Γ D O M ou od j g G a1 a2 y) (Sum.elim (qG_countWrongLabels_4 S xs I C Y Γ D O M ou od j g G y) (fun X : Int32 => y = (((.inl (some (.int X))), (zH I C Y (gup Γ g G) D O M ou od j)) : (Option Value ⊕ String) × px_H)))) x) : qG_countWrongLabels_39 S xs I C Y Γ D O M ou od j g G a1 a2 y s := by
  obtain ⟨a3, a4⟩ := s
  have hk : pt_mt[221]? = some pt_r221 := rfl
  unfold fG_countWrongLabels_b39 at hx
  try dsimp only at hx
  refine ev_ls (L' := [some (.ref g), some (.int a1), some (.int a2), some (.int (b2i a3)), some (.int a4)]) (st' := [.int a4]) (pc' := 41) hk (.iload 4) 2 rfl rfl rfl rfl ?_
  refine ev_ls (L' := [some (.ref g), some (.int a1), some (.int a2), some (.int (b2i a3)), some (.int a4)]) (st' := [.ref g, .int a4]) (pc' := 42) hk (.aload_n 0) 1 rfl rfl rfl rfl ?_
  refine ev_gf (.ref (g + 1)) 45 hk rfl rfl (lk_globe hg gup_same) rfl rfl ?_
  refine ev_gf (.int (gF G 1 0)) 48 hk rfl rfl (lk_cloth hg gup_same) rfl rfl ?_
  refine ev_d2 101 51 hk rfl rfl rfl rfl (px_cge hx (fun hc hx => ?_) (fun hc hx => ?_))
  · refine ev_ls (L' := [some (.ref g), some (.int a1), some (.int a2), some (.int (b2i a3)), some (.int a4)]) (st' := [.int (b2i a3)]) (pc' := 102) hk (.iload_n 3) 1 rfl rfl rfl rfl ?_
    refine ev_d1 108 105 hk rfl rfl rfl rfl (px_beq hx (fun hc hx => ?_) (fun hc hx => ?_))
    · refine ev_ls (L' := [some (.ref g), some (.int a1), some (.int (a2 + 1)), some (.int (b2i a3)), some (.int a4)]) (st' := []) (pc' := 111) hk (.iinc 2 1) 3 rfl rfl rfl rfl ?_
      refine ev_jp (pc' := 4) (st' := []) hk (.goto (-107)) 3 rfl rfl rfl rfl rfl ?_
      cases hx
      exact hM (some (.int (b2i a3))) rfl (some (.int a4)) rfl
    · refine ev_ls (L' := [some (.ref g), some (.int (a1 + 1)), some (.int a2), some (.int (b2i a3)), some (.int a4)]) (st' := []) (pc' := 108) hk (.iinc 1 1) 3 rfl rfl rfl rfl ?_
      refine ev_ls (L' := [some (.ref g), some (.int (a1 + 1)), some (.int (a2 + 1)), some (.int (b2i a3)), some (.int a4)]) (st' := []) (pc' := 111) hk (.iinc 2 1) 3 rfl rfl rfl rfl ?_
      refine ev_jp (pc' := 4) (st' := []) hk (.goto (-107)) 3 rfl rfl rfl rfl rfl ?_
      cases hx
      exact hM (some (.int (b2i a3))) rfl (some (.int a4)) rfl
  · refine ev_ls (L' := [some (.ref g), some (.int a1), some (.int a2), some (.int (b2i a3)), some (.int a4)]) (st' := [.int (b2i a3)]) (pc' := 52) hk (.iload_n 3) 1 rfl rfl rfl rfl ?_
    refine ev_d1 89 55 hk rfl rfl rfl rfl (px_bne hx (fun hc hx => ?_) (fun hc hx => ?_))
    · refine ev_op (st' := [.int 1]) (pc' := 90) hk (.iconst 1) 1 rfl rfl rfl ?_
      refine ev_jp (pc' := 94) (st' := [.int 1]) hk (.goto 4) 3 rfl rfl rfl rfl rfl ?_
      refine ev_ls (L' := [some (.ref g), some (.int a1), some (.int a2), some (.int 1), some (.int a4)]) (st' := []) (pc' := 95) hk (.istore_n 3) 1 rfl rfl rfl rfl ?_
      refine ev_ls (L' := [some (.ref g), some (.int a1), some (.int a2), some (.int 1), some (.int (a4 + 1))]) (st' := []) (pc' := 98) hk (.iinc 4 1) 3 rfl rfl rfl rfl ?_
      refine ev_jp (pc' := 39) (st' := []) hk (.goto (-59)) 3 rfl rfl rfl rfl rfl ?_
      cases hx
      exact hM
    · refine ev_ls (L' := [some (.ref g), some (.int a1), some (.int a2), some (.int (b2i a3)), some (.int a4)]) (st' := [.ref g]) (pc' := 56) hk (.aload_n 0) 1 rfl rfl rfl rfl ?_
      refine ev_gf (.ref (g + 1)) 59 hk rfl rfl (lk_globe hg gup_same) rfl rfl ?_
      refine ev_ls (L' := [some (.ref g), some (.int a1), some (.int a2), some (.int (b2i a3)), some (.int a4)]) (st' := [.int a4, .ref (g + 1)]) (pc' := 61) hk (.iload 4) 2 rfl rfl rfl rfl ?_
      obtain ⟨v15, hc16, hx⟩ := bnd_some hx
      refine ev_cv 11 1 [.int (b2i v15)] 64 hk rfl rfl rfl rfl (lk_cloth hg gup_same) rfl rfl rfl (rC_isTorn hg hc16) rfl rfl rfl rfl ?_
      refine ev_d1 93 67 hk rfl rfl rfl rfl (px_beq hx (fun hc hx => ?_) (fun hc hx => ?_))
      · refine ev_op (st' := [.int 0]) (pc' := 94) hk (.iconst 0) 1 rfl rfl rfl ?_
        refine ev_ls (L' := [some (.ref g), some (.int a1), some (.int a2), some (.int 0), some (.int a4)]) (st' := []) (pc' := 95) hk (.istore_n 3) 1 rfl rfl rfl rfl ?_
        refine ev_ls (L' := [some (.ref g), some (.int a1), some (.int a2), some (.int 0), some (.int (a4 + 1))]) (st' := []) (pc' := 98) hk (.iinc 4 1) 3 rfl rfl rfl rfl ?_
        refine ev_jp (pc' := 39) (st' := []) hk (.goto (-59)) 3 rfl rfl rfl rfl rfl ?_
        cases hx
        exact hM
      · refine ev_ls (L' := [some (.ref g), some (.int a1), some (.int a2), some (.int (b2i a3)), some (.int a4)]) (st' := [.ref g]) (pc' := 68) hk (.aload_n 0) 1 rfl rfl rfl rfl ?_
        refine ev_gf (.ref (g + 17)) 71 hk rfl rfl (lk_globe hg gup_same) rfl rfl ?_
        refine ev_ls (L' := [some (.ref g), some (.int a1), some (.int a2), some (.int (b2i a3)), some (.int a4)]) (st' := [.int a2, .ref (g + 17)]) (pc' := 72) hk (.iload_n 2) 1 rfl rfl rfl rfl ?_
        obtain ⟨p17, hp17, hx⟩ := bnd_some hx
        have hpp17 := rix_lt hp17
        refine ev_aal (g + (18 + p17)) hp17 73 hk rfl (lk_labels hg gup_same) (by decide) (lk_la hpp17) rfl ?_
        refine ev_ls (L' := [some (.ref g), some (.int a1), some (.int a2), some (.int (b2i a3)), some (.int a4)]) (st' := [.ref g, .ref (g + (18 + p17))]) (pc' := 74) hk (.aload_n 0) 1 rfl rfl rfl rfl ?_
        refine ev_gf (.ref (g + 1)) 77 hk rfl rfl (lk_globe hg gup_same) rfl rfl ?_
        refine ev_gf (.ref (g + 3)) 80 hk rfl rfl (lk_cloth hg gup_same) rfl rfl ?_
        refine ev_ls (L' := [some (.ref g), some (.int a1), some (.int a2), some (.int (b2i a3)), some (.int a4)]) (st' := [.int a4, .ref (g + 3), .ref (g + (18 + p17))]) (pc' := 82) hk (.iload 4) 2 rfl rfl rfl rfl ?_
        obtain ⟨v18, hv18, hx⟩ := bnd_some hx
        refine ev_ial hv18 83 hk rfl (lk_a3 hg gup_same) rfl ?_
        refine ev_cv 281 1 [.int (b2i (fL_crosses G p17 v18))] 86 hk rfl rfl rfl rfl (lk_label hg hpp17 gup_same) rfl rfl rfl (rL_crosses hg hpp17 rfl) rfl rfl rfl rfl ?_
        refine ev_d1 93 89 hk rfl rfl rfl rfl (px_beq hx (fun hc hx => ?_) (fun hc hx => ?_))
        · refine ev_op (st' := [.int 0]) (pc' := 94) hk (.iconst 0) 1 rfl rfl rfl ?_
          refine ev_ls (L' := [some (.ref g), some (.int a1), some (.int a2), some (.int 0), some (.int a4)]) (st' := []) (pc' := 95) hk (.istore_n 3) 1 rfl rfl rfl rfl ?_
          refine ev_ls (L' := [some (.ref g), some (.int a1), some (.int a2), some (.int 0), some (.int (a4 + 1))]) (st' := []) (pc' := 98) hk (.iinc 4 1) 3 rfl rfl rfl rfl ?_
          refine ev_jp (pc' := 39) (st' := []) hk (.goto (-59)) 3 rfl rfl rfl rfl rfl ?_
          cases hx
          exact hM
        · refine ev_op (st' := [.int 1]) (pc' := 90) hk (.iconst 1) 1 rfl rfl rfl ?_
          refine ev_jp (pc' := 94) (st' := [.int 1]) hk (.goto 4) 3 rfl rfl rfl rfl rfl ?_
          refine ev_ls (L' := [some (.ref g), some (.int a1), some (.int a2), some (.int 1), some (.int a4)]) (st' := []) (pc' := 95) hk (.istore_n 3) 1 rfl rfl rfl rfl ?_
          refine ev_ls (L' := [some (.ref g), some (.int a1), some (.int a2), some (.int 1), some (.int (a4 + 1))]) (st' := []) (pc' := 98) hk (.iinc 4 1) 3 rfl rfl rfl rfl ?_
          refine ev_jp (pc' := 39) (st' := []) hk (.goto (-59)) 3 rfl rfl rfl rfl rfl ?_
          cases hx
          exact hM
set_option maxRecDepth 4000 in
theorem rG_countWrongLabels_b4 {S : Nat} {xs : Nat → Int32} {I : zI} {C : zC} {Y : Nat → Int32} {Γ : Nat → zG} {D : zD} {O : Nat → Int32} {M : zM} {ou : Nat → Int64} {od : Nat → UInt64} {j : Nat} {g : Nat} {G : zG}  {y : (Option Value ⊕ String) × px_H} {s : Int32 × Int32} {x : (Int32 × Int32) ⊕ (Int32)} (hg : isG g) (hx : fG_countWrongLabels_b4 G s.1 s.2 = some x) (hM : (Sum.elim (qG_countWrongLabels_4 S xs I C Y Γ D O M ou od j g G y) (fun X : Int32 => y = (((.inl (some (.int X))), (zH I C Y (gup Γ g G) D O M ou od j)) : (Option Value ⊕ String) × px_H))) x) : qG_countWrongLabels_4 S xs I C Y Γ D O M ou od j g G y s := by
  obtain ⟨a1, a2⟩ := s
  intro u3 hu3 u4 hu4
  have hk : pt_mt[221]? = some pt_r221 := rfl
  unfold fG_countWrongLabels_b4 at hx
  try dsimp only at hx
  refine ev_ls (L' := [some (.ref g), some (.int a1), some (.int a2), u3, u4]) (st' := [.int a2]) (pc' := 5) hk (.iload_n 2) 1 rfl rfl rfl rfl ?_
  refine ev_ls (L' := [some (.ref g), some (.int a1), some (.int a2), u3, u4]) (st' := [.ref g, .int a2]) (pc' := 6) hk (.aload_n 0) 1 rfl rfl rfl rfl ?_
  refine ev_gf (.int (gF G 0 6)) 9 hk rfl rfl (lk_globe hg gup_same) rfl rfl ?_
  refine ev_d2 114 12 hk rfl rfl rfl rfl (px_cge hx (fun hc hx => ?_) (fun hc hx => ?_))
  · refine ev_ls (L' := [some (.ref g), some (.int a1), some (.int a2), u3, u4]) (st' := [.int a1]) (pc' := 115) hk (.iload_n 1) 1 rfl rfl rfl rfl ?_
    cases hx
    obtain rfl := hM
    exact ev_retI hk rfl rfl
  · refine ev_ls (L' := [some (.ref g), some (.int a1), some (.int a2), u3, u4]) (st' := [.ref g]) (pc' := 13) hk (.aload_n 0) 1 rfl rfl rfl rfl ?_
    refine ev_gf (.ref (g + 17)) 16 hk rfl rfl (lk_globe hg gup_same) rfl rfl ?_
    refine ev_ls (L' := [some (.ref g), some (.int a1), some (.int a2), u3, u4]) (st' := [.int a2, .ref (g + 17)]) (pc' := 17) hk (.iload_n 2) 1 rfl rfl rfl rfl ?_
    obtain ⟨p12, hp12, hx⟩ := bnd_some hx
    have hpp12 := rix_lt hp12
    refine ev_aal (g + (18 + p12)) hp12 18 hk rfl (lk_labels hg gup_same) (by decide) (lk_la hpp12) rfl ?_
    refine ev_ls (L' := [some (.ref g), some (.int a1), some (.int a2), u3, u4]) (st' := [.ref g, .ref (g + (18 + p12))]) (pc' := 19) hk (.aload_n 0) 1 rfl rfl rfl rfl ?_
    refine ev_gf (.ref (g + 5)) 22 hk rfl rfl (lk_globe hg gup_same) rfl rfl ?_
    refine ev_ls (L' := [some (.ref g), some (.int a1), some (.int a2), u3, u4]) (st' := [.ref g, .ref (g + 5), .ref (g + (18 + p12))]) (pc' := 23) hk (.aload_n 0) 1 rfl rfl rfl rfl ?_
    refine ev_gf (.ref (g + 17)) 26 hk rfl rfl (lk_globe hg gup_same) rfl rfl ?_
    refine ev_ls (L' := [some (.ref g), some (.int a1), some (.int a2), u3, u4]) (st' := [.int a2, .ref (g + 17), .ref (g + 5), .ref (g + (18 + p12))]) (pc' := 27) hk (.iload_n 2) 1 rfl rfl rfl rfl ?_
    obtain ⟨p13, hp13, hx⟩ := bnd_some hx
    have hpp13 := rix_lt hp13
    refine ev_aal (g + (18 + p13)) hp13 28 hk rfl (lk_labels hg gup_same) (by decide) (lk_la hpp13) rfl ?_
    refine ev_gf (.int (gF G (18 + p13) 0)) 31 hk rfl rfl (lk_label hg hpp13 gup_same) rfl rfl ?_
    obtain ⟨v14, hv14, hx⟩ := bnd_some hx
    refine ev_ial hv14 32 hk rfl (lk_a5 hg gup_same) rfl ?_
    refine ev_cv 281 1 [.int (b2i (fL_crosses G p12 v14))] 35 hk rfl rfl rfl rfl (lk_label hg hpp12 gup_same) rfl rfl rfl (rL_crosses hg hpp12 rfl) rfl rfl rfl rfl ?_
    refine ev_ls (L' := [some (.ref g), some (.int a1), some (.int a2), some (.int (b2i (fL_crosses G p12 v14))), u4]) (st' := []) (pc' := 36) hk (.istore_n 3) 1 rfl rfl rfl rfl ?_
    refine ev_op (st' := [.int 0]) (pc' := 37) hk (.iconst 0) 1 rfl rfl rfl ?_
    refine ev_ls (L' := [some (.ref g), some (.int a1), some (.int a2), some (.int (b2i (fL_crosses G p12 v14))), some (.int 0)]) (st' := []) (pc' := 39) hk (.istore 4) 2 rfl rfl rfl rfl ?_
    exact ev_iter (qG_countWrongLabels_39 S xs I C Y Γ D O M ou od j g G a1 a2 _) (Sum.elim (qG_countWrongLabels_4 S xs I C Y Γ D O M ou od j g G y) (fun X : Int32 => y = (((.inl (some (.int X))), (zH I C Y (gup Γ g G) D O M ou od j)) : (Option Value ⊕ String) × px_H))) (fun s x hb hM => rG_countWrongLabels_b39 hg hb hM) fu _ _ hx hM 
set_option maxRecDepth 2000 in
theorem rG_countWrongLabels {S : Nat} {xs : Nat → Int32} {I : zI} {C : zC} {Y : Nat → Int32} {Γ : Nat → zG} {D : zD} {O : Nat → Int32} {M : zM} {ou : Nat → Int64} {od : Nat → UInt64} {j : Nat} {g : Nat} {G : zG}  {X : Int32}  (hg : isG g) (hx : fG_countWrongLabels G = some X) : Ev S xs 221 0 [some (.ref g), none, none, none, none] [] (zH I C Y (gup Γ g G) D O M ou od j) (((.inl (some (.int X))), (zH I C Y (gup Γ g G) D O M ou od j)) : (Option Value ⊕ String) × px_H) := by
  generalize hM : (((.inl (some (.int X))), (zH I C Y (gup Γ g G) D O M ou od j)) : (Option Value ⊕ String) × px_H) = y
  replace hM := hM.symm
  have hk : pt_mt[221]? = some pt_r221 := rfl
  unfold fG_countWrongLabels at hx
  refine ev_op (st' := [.int 0]) (pc' := 1) hk (.iconst 0) 1 rfl rfl rfl ?_
  refine ev_ls (L' := [some (.ref g), some (.int 0), none, none, none]) (st' := []) (pc' := 2) hk (.istore_n 1) 1 rfl rfl rfl rfl ?_
  refine ev_op (st' := [.int 0]) (pc' := 3) hk (.iconst 0) 1 rfl rfl rfl ?_
  refine ev_ls (L' := [some (.ref g), some (.int 0), some (.int 0), none, none]) (st' := []) (pc' := 4) hk (.istore_n 2) 1 rfl rfl rfl rfl ?_
  exact ev_iter (qG_countWrongLabels_4 S xs I C Y Γ D O M ou od j g G _) (fun X : Int32 => y = (((.inl (some (.int X))), (zH I C Y (gup Γ g G) D O M ou od j)) : (Option Value ⊕ String) × px_H)) (fun s x hb hM => rG_countWrongLabels_b4 hg hb hM) fu _ _ hx hM none rfl none rfl
def qG_countWideHems_4 (S : Nat) (xs : Nat → Int32) (I : zI) (C : zC) (Y : Nat → Int32) (Γ : Nat → zG) (D : zD) (O : Nat → Int32) (M : zM) (ou : Nat → Int64) (od : Nat → UInt64) (j : Nat) (g : Nat) (G : zG) (y : (Option Value ⊕ String) × px_H) (s : Int32 × Int32) : Prop := Ev S xs 218 4 [some (.ref g), some (.int s.1), some (.int s.2)] [] (zH I C Y (gup Γ g G) D O M ou od j) y
set_option maxRecDepth 4000 in
theorem rG_countWideHems_b4 {S : Nat} {xs : Nat → Int32} {I : zI} {C : zC} {Y : Nat → Int32} {Γ : Nat → zG} {D : zD} {O : Nat → Int32} {M : zM} {ou : Nat → Int64} {od : Nat → UInt64} {j : Nat} {g : Nat} {G : zG}  {y : (Option Value ⊕ String) × px_H} {s : Int32 × Int32} {x : (Int32 × Int32) ⊕ (Int32)} (hg : isG g) (hx : fG_countWideHems_b4 G s.1 s.2 = some x) (hM : (Sum.elim (qG_countWideHems_4 S xs I C Y Γ D O M ou od j g G y) (fun X : Int32 => y = (((.inl (some (.int X))), (zH I C Y (gup Γ g G) D O M ou od j)) : (Option Value ⊕ String) × px_H))) x) : qG_countWideHems_4 S xs I C Y Γ D O M ou od j g G y s := by
  obtain ⟨a1, a2⟩ := s
  have hk : pt_mt[218]? = some pt_r218 := rfl
  unfold fG_countWideHems_b4 at hx
  try dsimp only at hx
  refine ev_ls (L' := [some (.ref g), some (.int a1), some (.int a2)]) (st' := [.int a2]) (pc' := 5) hk (.iload_n 2) 1 rfl rfl rfl rfl ?_
  refine ev_op (st' := [.int 8, .int a2]) (pc' := 7) hk (.bipush 8) 2 rfl rfl rfl ?_
  refine ev_d2 39 10 hk rfl rfl rfl rfl (px_cge hx (fun hc hx => ?_) (fun hc hx => ?_))
  · refine ev_ls (L' := [some (.ref g), some (.int a1), some (.int a2)]) (st' := [.int a1]) (pc' := 40) hk (.iload_n 1) 1 rfl rfl rfl rfl ?_
    cases hx
    obtain rfl := hM
    exact ev_retI hk rfl rfl
  · refine ev_ls (L' := [some (.ref g), some (.int a1), some (.int a2)]) (st' := [.ref g]) (pc' := 11) hk (.aload_n 0) 1 rfl rfl rfl rfl ?_
    refine ev_gf (.ref (g + 5)) 14 hk rfl rfl (lk_globe hg gup_same) rfl rfl ?_
    refine ev_ls (L' := [some (.ref g), some (.int a1), some (.int a2)]) (st' := [.int a2, .ref (g + 5)]) (pc' := 15) hk (.iload_n 2) 1 rfl rfl rfl rfl ?_
    obtain ⟨v4, hv4, hx⟩ := bnd_some hx
    refine ev_ial hv4 16 hk rfl (lk_a5 hg gup_same) rfl ?_
    refine ev_ls (L' := [some (.ref g), some (.int a1), some (.int a2)]) (st' := [.ref g, .int v4]) (pc' := 17) hk (.aload_n 0) 1 rfl rfl rfl rfl ?_
    refine ev_gf (.ref (g + 5)) 20 hk rfl rfl (lk_globe hg gup_same) rfl rfl ?_
    refine ev_ls (L' := [some (.ref g), some (.int a1), some (.int a2)]) (st' := [.int a2, .ref (g + 5), .int v4]) (pc' := 21) hk (.iload_n 2) 1 rfl rfl rfl rfl ?_
    refine ev_op (st' := [.int 1, .int a2, .ref (g + 5), .int v4]) (pc' := 22) hk (.iconst 1) 1 rfl rfl rfl ?_
    refine ev_op (st' := [.int (a2 + 1), .ref (g + 5), .int v4]) (pc' := 23) hk (.iadd) 1 rfl rfl rfl ?_
    obtain ⟨v5, hv5, hx⟩ := bnd_some hx
    refine ev_ial hv5 24 hk rfl (lk_a5 hg gup_same) rfl ?_
    refine ev_cs 230 2 [.int (b2i (fG_isWide v4 v5))] 27 hk rfl rfl (by decide) rfl rfl rfl (rG_isWide rfl) rfl rfl rfl rfl ?_
    refine ev_d1 33 30 hk rfl rfl rfl rfl (px_beq hx (fun hc hx => ?_) (fun hc hx => ?_))
    · refine ev_ls (L' := [some (.ref g), some (.int a1), some (.int (a2 + 1))]) (st' := []) (pc' := 36) hk (.iinc 2 1) 3 rfl rfl rfl rfl ?_
      refine ev_jp (pc' := 4) (st' := []) hk (.goto (-32)) 3 rfl rfl rfl rfl rfl ?_
      cases hx
      exact hM
    · refine ev_ls (L' := [some (.ref g), some (.int (a1 + 1)), some (.int a2)]) (st' := []) (pc' := 33) hk (.iinc 1 1) 3 rfl rfl rfl rfl ?_
      refine ev_ls (L' := [some (.ref g), some (.int (a1 + 1)), some (.int (a2 + 1))]) (st' := []) (pc' := 36) hk (.iinc 2 1) 3 rfl rfl rfl rfl ?_
      refine ev_jp (pc' := 4) (st' := []) hk (.goto (-32)) 3 rfl rfl rfl rfl rfl ?_
      cases hx
      exact hM
set_option maxRecDepth 2000 in
theorem rG_countWideHems {S : Nat} {xs : Nat → Int32} {I : zI} {C : zC} {Y : Nat → Int32} {Γ : Nat → zG} {D : zD} {O : Nat → Int32} {M : zM} {ou : Nat → Int64} {od : Nat → UInt64} {j : Nat} {g : Nat} {G : zG}  {X : Int32}  (hg : isG g) (hx : fG_countWideHems G = some X) : Ev S xs 218 0 [some (.ref g), none, none] [] (zH I C Y (gup Γ g G) D O M ou od j) (((.inl (some (.int X))), (zH I C Y (gup Γ g G) D O M ou od j)) : (Option Value ⊕ String) × px_H) := by
  generalize hM : (((.inl (some (.int X))), (zH I C Y (gup Γ g G) D O M ou od j)) : (Option Value ⊕ String) × px_H) = y
  replace hM := hM.symm
  have hk : pt_mt[218]? = some pt_r218 := rfl
  unfold fG_countWideHems at hx
  refine ev_op (st' := [.int 0]) (pc' := 1) hk (.iconst 0) 1 rfl rfl rfl ?_
  refine ev_ls (L' := [some (.ref g), some (.int 0), none]) (st' := []) (pc' := 2) hk (.istore_n 1) 1 rfl rfl rfl rfl ?_
  refine ev_op (st' := [.int 0]) (pc' := 3) hk (.iconst 0) 1 rfl rfl rfl ?_
  refine ev_ls (L' := [some (.ref g), some (.int 0), some (.int 0)]) (st' := []) (pc' := 4) hk (.istore_n 2) 1 rfl rfl rfl rfl ?_
  exact ev_iter (qG_countWideHems_4 S xs I C Y Γ D O M ou od j g G _) (fun X : Int32 => y = (((.inl (some (.int X))), (zH I C Y (gup Γ g G) D O M ou od j)) : (Option Value ⊕ String) × px_H)) (fun s x hb hM => rG_countWideHems_b4 hg hb hM) fu _ _ hx hM 
set_option maxRecDepth 2000 in
theorem rX_violations {S : Nat} {xs : Nat → Int32} {I : zI} {C : zC} {Y : Nat → Int32} {Γ : Nat → zG} {D : zD} {O : Nat → Int32} {M : zM} {ou : Nat → Int64} {od : Nat → UInt64} {j : Nat}  {X : Int32}   (hx : fX_violations Γ = some X) : Ev S xs 365 0 [some (.ref 0)] [] (zH I C Y Γ D O M ou od j) (((.inl (some (.int X))), (zH I C Y Γ D O M ou od j)) : (Option Value ⊕ String) × px_H) := by
  generalize hM : (((.inl (some (.int X))), (zH I C Y Γ D O M ou od j)) : (Option Value ⊕ String) × px_H) = y
  replace hM := hM.symm
  have hk : pt_mt[365]? = some pt_r365 := rfl
  unfold fX_violations at hx
  refine ev_ls (L' := [some (.ref 0)]) (st' := [.ref 0]) (pc' := 1) hk (.aload_n 0) 1 rfl rfl rfl rfl ?_
  refine ev_gf (.ref 10) 4 hk rfl rfl lk_dh rfl rfl ?_
  obtain ⟨v1, hc2, hx⟩ := bnd_some hx
  refine ev_cv 220 0 [.int v1] 7 hk rfl rfl rfl rfl (lk_globe isG_10 rfl) rfl rfl rfl (ev_gs2 (rG_countWrongDiaries isG_10 hc2)) rfl rfl rfl rfl ?_
  refine ev_ls (L' := [some (.ref 0)]) (st' := [.ref 0, .int v1]) (pc' := 8) hk (.aload_n 0) 1 rfl rfl rfl rfl ?_
  refine ev_gf (.ref 10) 11 hk rfl rfl lk_dh rfl rfl ?_
  obtain ⟨v3, hc4, hx⟩ := bnd_some hx
  refine ev_cv 219 0 [.int v3, .int v1] 14 hk rfl rfl rfl rfl (lk_globe isG_10 rfl) rfl rfl rfl (ev_gs2 (rG_countWrongDays isG_10 hc4)) rfl rfl rfl rfl ?_
  refine ev_op (st' := [.int (v1 + v3)]) (pc' := 15) hk (.iadd) 1 rfl rfl rfl ?_
  refine ev_ls (L' := [some (.ref 0)]) (st' := [.ref 0, .int (v1 + v3)]) (pc' := 16) hk (.aload_n 0) 1 rfl rfl rfl rfl ?_
  refine ev_gf (.ref 10) 19 hk rfl rfl lk_dh rfl rfl ?_
  obtain ⟨v5, hc6, hx⟩ := bnd_some hx
  refine ev_cv 221 0 [.int v5, .int (v1 + v3)] 22 hk rfl rfl rfl rfl (lk_globe isG_10 rfl) rfl rfl rfl (ev_gs2 (rG_countWrongLabels isG_10 hc6)) rfl rfl rfl rfl ?_
  refine ev_op (st' := [.int ((v1 + v3) + v5)]) (pc' := 23) hk (.iadd) 1 rfl rfl rfl ?_
  refine ev_ls (L' := [some (.ref 0)]) (st' := [.ref 0, .int ((v1 + v3) + v5)]) (pc' := 24) hk (.aload_n 0) 1 rfl rfl rfl rfl ?_
  refine ev_gf (.ref 10) 27 hk rfl rfl lk_dh rfl rfl ?_
  obtain ⟨v7, hc8, hx⟩ := bnd_some hx
  refine ev_cv 218 0 [.int v7, .int ((v1 + v3) + v5)] 30 hk rfl rfl rfl rfl (lk_globe isG_10 rfl) rfl rfl rfl (ev_gs2 (rG_countWideHems isG_10 hc8)) rfl rfl rfl rfl ?_
  refine ev_op (st' := [.int (((v1 + v3) + v5) + v7)]) (pc' := 31) hk (.iadd) 1 rfl rfl rfl ?_
  cases hx
  obtain rfl := hM
  exact ev_retI hk rfl rfl
set_option maxRecDepth 2000 in
theorem rM_dayNow {S : Nat} {xs : Nat → Int32} {I : zI} {C : zC} {Y : Nat → Int32} {Γ : Nat → zG} {D : zD} {O : Nat → Int32} {M : zM} {ou : Nat → Int64} {od : Nat → UInt64} {j : Nat} {a1 : Int32} {X : Int32}   (hx : fM_dayNow M a1 = some X) : Ev S xs 43 0 [some (.ref 247), some (.int a1)] [] (zH I C Y Γ D O M ou od j) (((.inl (some (.int X))), (zH I C Y Γ D O M ou od j)) : (Option Value ⊕ String) × px_H) := by
  generalize hM : (((.inl (some (.int X))), (zH I C Y Γ D O M ou od j)) : (Option Value ⊕ String) × px_H) = y
  replace hM := hM.symm
  have hk : pt_mt[43]? = some pt_r43 := rfl
  unfold fM_dayNow at hx
  refine ev_ls (L' := [some (.ref 247), some (.int a1)]) (st' := [.ref 247]) (pc' := 1) hk (.aload_n 0) 1 rfl rfl rfl rfl ?_
  refine ev_ls (L' := [some (.ref 247), some (.int a1)]) (st' := [.ref 247, .ref 247]) (pc' := 2) hk (.aload_n 0) 1 rfl rfl rfl rfl ?_
  refine ev_ls (L' := [some (.ref 247), some (.int a1)]) (st' := [.int a1, .ref 247, .ref 247]) (pc' := 3) hk (.iload_n 1) 1 rfl rfl rfl rfl ?_
  refine ev_op (st' := [.int 3, .int a1, .ref 247, .ref 247]) (pc' := 4) hk (.iconst 3) 1 rfl rfl rfl ?_
  obtain ⟨v1, hc2, hx⟩ := bnd_some hx
  refine ev_cv 145 2 [.int v1, .ref 247] 7 hk rfl rfl rfl rfl lk_model rfl rfl rfl (rM_of hc2) rfl rfl rfl rfl ?_
  refine ev_ls (L' := [some (.ref 247), some (.int a1)]) (st' := [.ref 247, .int v1, .ref 247]) (pc' := 8) hk (.aload_n 0) 1 rfl rfl rfl rfl ?_
  refine ev_ls (L' := [some (.ref 247), some (.int a1)]) (st' := [.int a1, .ref 247, .int v1, .ref 247]) (pc' := 9) hk (.iload_n 1) 1 rfl rfl rfl rfl ?_
  refine ev_op (st' := [.int 4, .int a1, .ref 247, .int v1, .ref 247]) (pc' := 10) hk (.iconst 4) 1 rfl rfl rfl ?_
  obtain ⟨v3, hc4, hx⟩ := bnd_some hx
  refine ev_cv 145 2 [.int v3, .int v1, .ref 247] 13 hk rfl rfl rfl rfl lk_model rfl rfl rfl (rM_of hc4) rfl rfl rfl rfl ?_
  obtain ⟨v5, hc6, hx⟩ := bnd_some hx
  refine ev_cv 122 2 [.int v5] 16 hk rfl rfl rfl rfl lk_model rfl rfl rfl (rM_localDay hc6) rfl rfl rfl rfl ?_
  cases hx
  obtain rfl := hM
  exact ev_retI hk rfl rfl
set_option maxRecDepth 2000 in
theorem rM_isStrangeBand {S : Nat} {xs : Nat → Int32} {I : zI} {C : zC} {Y : Nat → Int32} {Γ : Nat → zG} {D : zD} {O : Nat → Int32} {M : zM} {ou : Nat → Int64} {od : Nat → UInt64} {j : Nat} {a1 : Int32} {X : Bool}   (hx : fM_isStrangeBand M a1 = some X) : Ev S xs 94 0 [some (.ref 247), some (.int a1), none, none] [] (zH I C Y Γ D O M ou od j) (((.inl (some (.int (b2i X)))), (zH I C Y Γ D O M ou od j)) : (Option Value ⊕ String) × px_H) := by
  generalize hM : (((.inl (some (.int (b2i X)))), (zH I C Y Γ D O M ou od j)) : (Option Value ⊕ String) × px_H) = y
  replace hM := hM.symm
  have hk : pt_mt[94]? = some pt_r94 := rfl
  unfold fM_isStrangeBand at hx
  refine ev_ls (L' := [some (.ref 247), some (.int a1), none, none]) (st' := [.ref 247]) (pc' := 1) hk (.aload_n 0) 1 rfl rfl rfl rfl ?_
  refine ev_gf (.ref 249) 4 hk rfl rfl lk_model rfl rfl ?_
  refine ev_op (st' := [.int 5, .ref 249]) (pc' := 5) hk (.iconst 5) 1 rfl rfl rfl ?_
  refine ev_ls (L' := [some (.ref 247), some (.int a1), none, none]) (st' := [.int a1, .int 5, .ref 249]) (pc' := 6) hk (.iload_n 1) 1 rfl rfl rfl rfl ?_
  refine ev_op (st' := [.int (5 + a1), .ref 249]) (pc' := 7) hk (.iadd) 1 rfl rfl rfl ?_
  obtain ⟨v2, hv2, hx⟩ := bnd_some hx
  refine ev_ial hv2 8 hk rfl lk_m249 rfl ?_
  refine ev_ls (L' := [some (.ref 247), some (.int a1), some (.int v2), none]) (st' := []) (pc' := 9) hk (.istore_n 2) 1 rfl rfl rfl rfl ?_
  refine ev_ls (L' := [some (.ref 247), some (.int a1), some (.int v2), none]) (st' := [.ref 247]) (pc' := 10) hk (.aload_n 0) 1 rfl rfl rfl rfl ?_
  refine ev_gf (.ref 249) 13 hk rfl rfl lk_model rfl rfl ?_
  refine ev_op (st' := [.int 4, .ref 249]) (pc' := 14) hk (.iconst 4) 1 rfl rfl rfl ?_
  refine ev_ial (v := ((mA M 249) 4)) rfl 15 hk rfl lk_m249 rfl ?_
  refine ev_ls (L' := [some (.ref 247), some (.int a1), some (.int v2), none]) (st' := [.int v2, .int ((mA M 249) 4)]) (pc' := 16) hk (.iload_n 2) 1 rfl rfl rfl rfl ?_
  refine ev_op (st' := [.int 15, .int v2, .int ((mA M 249) 4)]) (pc' := 18) hk (.bipush 15) 2 rfl rfl rfl ?_
  obtain ⟨v3, hc4, hx⟩ := bnd_some hx
  refine ev_cs 55 2 [.int v3, .int ((mA M 249) 4)] 21 hk rfl rfl (by decide) rfl rfl rfl (rM_floored hc4) rfl rfl rfl rfl ?_
  refine ev_op (st' := [.int (((mA M 249) 4) + v3)]) (pc' := 22) hk (.iadd) 1 rfl rfl rfl ?_
  refine ev_op (st' := [.int 24, .int (((mA M 249) 4) + v3)]) (pc' := 24) hk (.bipush 24) 2 rfl rfl rfl ?_
  obtain ⟨v5, hc6, hx⟩ := bnd_some hx
  refine ev_cs 55 2 [.int v5] 27 hk rfl rfl (by decide) rfl rfl rfl (rM_floored hc6) rfl rfl rfl rfl ?_
  refine ev_ls (L' := [some (.ref 247), some (.int a1), some (.int v2), some (.int v5)]) (st' := []) (pc' := 28) hk (.istore_n 3) 1 rfl rfl rfl rfl ?_
  refine ev_ls (L' := [some (.ref 247), some (.int a1), some (.int v2), some (.int v5)]) (st' := [.ref 247]) (pc' := 29) hk (.aload_n 0) 1 rfl rfl rfl rfl ?_
  refine ev_ls (L' := [some (.ref 247), some (.int a1), some (.int v2), some (.int v5)]) (st' := [.int a1, .ref 247]) (pc' := 30) hk (.iload_n 1) 1 rfl rfl rfl rfl ?_
  refine ev_ls (L' := [some (.ref 247), some (.int a1), some (.int v2), some (.int v5)]) (st' := [.int v2, .int a1, .ref 247]) (pc' := 31) hk (.iload_n 2) 1 rfl rfl rfl rfl ?_
  obtain ⟨v7, hc8, hx⟩ := bnd_some hx
  refine ev_cv 122 2 [.int v7] 34 hk rfl rfl rfl rfl lk_model rfl rfl rfl (rM_localDay hc8) rfl rfl rfl rfl ?_
  refine ev_ls (L' := [some (.ref 247), some (.int a1), some (.int v2), some (.int v5)]) (st' := [.int v5, .int v7]) (pc' := 35) hk (.iload_n 3) 1 rfl rfl rfl rfl ?_
  refine ev_op (st' := [.int 1, .int v5, .int v7]) (pc' := 36) hk (.iconst 1) 1 rfl rfl rfl ?_
  refine ev_op (st' := [.int (v5 - 1), .int v7]) (pc' := 37) hk (.isub) 1 rfl rfl rfl ?_
  refine ev_d2 44 40 hk rfl rfl rfl rfl (px_ceq hx (fun hc hx => ?_) (fun hc hx => ?_))
  · refine ev_op (st' := [.int 0]) (pc' := 45) hk (.iconst 0) 1 rfl rfl rfl ?_
    cases hx
    obtain rfl := hM
    exact ev_retZ false rfl hk rfl rfl
  · refine ev_op (st' := [.int 1]) (pc' := 41) hk (.iconst 1) 1 rfl rfl rfl ?_
    refine ev_jp (pc' := 45) (st' := [.int 1]) hk (.goto 4) 3 rfl rfl rfl rfl rfl ?_
    cases hx
    obtain rfl := hM
    exact ev_retZ true rfl hk rfl rfl
set_option maxRecDepth 2000 in
theorem rM_isStrangeLabel {S : Nat} {xs : Nat → Int32} {I : zI} {C : zC} {Y : Nat → Int32} {Γ : Nat → zG} {D : zD} {O : Nat → Int32} {M : zM} {ou : Nat → Int64} {od : Nat → UInt64} {j : Nat} {a1 : Int32} {X : Bool}   (hx : fM_isStrangeLabel M a1 = some X) : Ev S xs 95 0 [some (.ref 247), some (.int a1)] [] (zH I C Y Γ D O M ou od j) (((.inl (some (.int (b2i X)))), (zH I C Y Γ D O M ou od j)) : (Option Value ⊕ String) × px_H) := by
  generalize hM : (((.inl (some (.int (b2i X)))), (zH I C Y Γ D O M ou od j)) : (Option Value ⊕ String) × px_H) = y
  replace hM := hM.symm
  have hk : pt_mt[95]? = some pt_r95 := rfl
  unfold fM_isStrangeLabel at hx
  refine ev_ls (L' := [some (.ref 247), some (.int a1)]) (st' := [.ref 247]) (pc' := 1) hk (.aload_n 0) 1 rfl rfl rfl rfl ?_
  refine ev_ls (L' := [some (.ref 247), some (.int a1)]) (st' := [.int a1, .ref 247]) (pc' := 2) hk (.iload_n 1) 1 rfl rfl rfl rfl ?_
  refine ev_op (st' := [.int 3, .int a1, .ref 247]) (pc' := 3) hk (.iconst 3) 1 rfl rfl rfl ?_
  obtain ⟨v2, hc3, hx⟩ := bnd_some hx
  refine ev_cv 103 2 [.int v2] 6 hk rfl rfl rfl rfl lk_model rfl rfl rfl (rM_its hc3) rfl rfl rfl rfl ?_
  refine ev_op (st' := [.int 1, .int v2]) (pc' := 7) hk (.iconst 1) 1 rfl rfl rfl ?_
  refine ev_d2 12 10 hk rfl rfl rfl rfl (px_cne hx (fun hc hx => ?_) (fun hc hx => ?_))
  · refine ev_ls (L' := [some (.ref 247), some (.int a1)]) (st' := [.ref 247]) (pc' := 13) hk (.aload_n 0) 1 rfl rfl rfl rfl ?_
    refine ev_ls (L' := [some (.ref 247), some (.int a1)]) (st' := [.int a1, .ref 247]) (pc' := 14) hk (.iload_n 1) 1 rfl rfl rfl rfl ?_
    refine ev_ls (L' := [some (.ref 247), some (.int a1)]) (st' := [.ref 247, .int a1, .ref 247]) (pc' := 15) hk (.aload_n 0) 1 rfl rfl rfl rfl ?_
    refine ev_gf (.ref 249) 18 hk rfl rfl lk_model rfl rfl ?_
    refine ev_op (st' := [.int 5, .ref 249, .int a1, .ref 247]) (pc' := 19) hk (.iconst 5) 1 rfl rfl rfl ?_
    refine ev_ls (L' := [some (.ref 247), some (.int a1)]) (st' := [.ref 247, .int 5, .ref 249, .int a1, .ref 247]) (pc' := 20) hk (.aload_n 0) 1 rfl rfl rfl rfl ?_
    refine ev_ls (L' := [some (.ref 247), some (.int a1)]) (st' := [.int a1, .ref 247, .int 5, .ref 249, .int a1, .ref 247]) (pc' := 21) hk (.iload_n 1) 1 rfl rfl rfl rfl ?_
    refine ev_op (st' := [.int 0, .int a1, .ref 247, .int 5, .ref 249, .int a1, .ref 247]) (pc' := 22) hk (.iconst 0) 1 rfl rfl rfl ?_
    obtain ⟨v4, hc5, hx⟩ := bnd_some hx
    refine ev_cv 103 2 [.int v4, .int 5, .ref 249, .int a1, .ref 247] 25 hk rfl rfl rfl rfl lk_model rfl rfl rfl (rM_its hc5) rfl rfl rfl rfl ?_
    refine ev_op (st' := [.int (5 + v4), .ref 249, .int a1, .ref 247]) (pc' := 26) hk (.iadd) 1 rfl rfl rfl ?_
    obtain ⟨v6, hv6, hx⟩ := bnd_some hx
    refine ev_ial hv6 27 hk rfl lk_m249 rfl ?_
    obtain ⟨v7, hc8, hx⟩ := bnd_some hx
    refine ev_cv 40 2 [.int (b2i v7)] 30 hk rfl rfl rfl rfl lk_model rfl rfl rfl (rM_crosses hc8) rfl rfl rfl rfl ?_
    refine ev_d1 51 33 hk rfl rfl rfl rfl (px_bne hx (fun hc hx => ?_) (fun hc hx => ?_))
    · refine ev_op (st' := [.int 1]) (pc' := 52) hk (.iconst 1) 1 rfl rfl rfl ?_
      refine ev_jp (pc' := 56) (st' := [.int 1]) hk (.goto 4) 3 rfl rfl rfl rfl rfl ?_
      cases hx
      obtain rfl := hM
      exact ev_retZ true rfl hk rfl rfl
    · refine ev_ls (L' := [some (.ref 247), some (.int a1)]) (st' := [.ref 247]) (pc' := 34) hk (.aload_n 0) 1 rfl rfl rfl rfl ?_
      refine ev_ls (L' := [some (.ref 247), some (.int a1)]) (st' := [.ref 247, .ref 247]) (pc' := 35) hk (.aload_n 0) 1 rfl rfl rfl rfl ?_
      refine ev_ls (L' := [some (.ref 247), some (.int a1)]) (st' := [.int a1, .ref 247, .ref 247]) (pc' := 36) hk (.iload_n 1) 1 rfl rfl rfl rfl ?_
      refine ev_op (st' := [.int 1, .int a1, .ref 247, .ref 247]) (pc' := 37) hk (.iconst 1) 1 rfl rfl rfl ?_
      obtain ⟨v9, hc10, hx⟩ := bnd_some hx
      refine ev_cv 103 2 [.int v9, .ref 247] 40 hk rfl rfl rfl rfl lk_model rfl rfl rfl (rM_its hc10) rfl rfl rfl rfl ?_
      refine ev_ls (L' := [some (.ref 247), some (.int a1)]) (st' := [.ref 247, .int v9, .ref 247]) (pc' := 41) hk (.aload_n 0) 1 rfl rfl rfl rfl ?_
      refine ev_ls (L' := [some (.ref 247), some (.int a1)]) (st' := [.int a1, .ref 247, .int v9, .ref 247]) (pc' := 42) hk (.iload_n 1) 1 rfl rfl rfl rfl ?_
      obtain ⟨v11, hc12, hx⟩ := bnd_some hx
      refine ev_cv 116 1 [.int v11, .int v9, .ref 247] 45 hk rfl rfl rfl rfl lk_model rfl rfl rfl (rM_lastOf hc12) rfl rfl rfl rfl ?_
      obtain ⟨v13, hc14, hx⟩ := bnd_some hx
      refine ev_cv 202 2 [.int (b2i v13)] 48 hk rfl rfl rfl rfl lk_model rfl rfl rfl (rM_wouldCrossTorn hc14) rfl rfl rfl rfl ?_
      refine ev_d1 55 51 hk rfl rfl rfl rfl (px_beq hx (fun hc hx => ?_) (fun hc hx => ?_))
      · refine ev_op (st' := [.int 0]) (pc' := 56) hk (.iconst 0) 1 rfl rfl rfl ?_
        cases hx
        obtain rfl := hM
        exact ev_retZ false rfl hk rfl rfl
      · refine ev_op (st' := [.int 1]) (pc' := 52) hk (.iconst 1) 1 rfl rfl rfl ?_
        refine ev_jp (pc' := 56) (st' := [.int 1]) hk (.goto 4) 3 rfl rfl rfl rfl rfl ?_
        cases hx
        obtain rfl := hM
        exact ev_retZ true rfl hk rfl rfl
  · refine ev_op (st' := [.int 0]) (pc' := 11) hk (.iconst 0) 1 rfl rfl rfl ?_
    cases hx
    obtain rfl := hM
    exact ev_retZ false rfl hk rfl rfl
set_option maxRecDepth 2000 in
theorem rM_told {S : Nat} {xs : Nat → Int32} {I : zI} {C : zC} {Y : Nat → Int32} {Γ : Nat → zG} {D : zD} {O : Nat → Int32} {M : zM} {ou : Nat → Int64} {od : Nat → UInt64} {j : Nat} {a1 : Int32} {X : Int32 × zM}   (hx : fM_told M a1 = some X) : Ev S xs 184 0 [some (.ref 247), some (.int a1)] [] (zH I C Y Γ D O M ou od j) (((.inl (some (.int X.1))), (zH I C Y Γ D O X.2 ou od j)) : (Option Value ⊕ String) × px_H) := by
  generalize hM : (((.inl (some (.int X.1))), (zH I C Y Γ D O X.2 ou od j)) : (Option Value ⊕ String) × px_H) = y
  replace hM := hM.symm
  have hk : pt_mt[184]? = some pt_r184 := rfl
  unfold fM_told at hx
  refine ev_ls (L' := [some (.ref 247), some (.int a1)]) (st' := [.ref 247]) (pc' := 1) hk (.aload_n 0) 1 rfl rfl rfl rfl ?_
  refine ev_op (st' := [.int 0, .ref 247]) (pc' := 2) hk (.iconst 0) 1 rfl rfl rfl ?_
  obtain ⟨M2, hM2, hx⟩ := bnd_some hx
  have hM2 := Option.some.inj hM2
  refine ev_pf 5 hk rfl rfl lk_model rfl rfl rfl (sf_8_0 hM2) rfl ?_
  refine ev_ls (L' := [some (.ref 247), some (.int a1)]) (st' := [.int a1]) (pc' := 6) hk (.iload_n 1) 1 rfl rfl rfl rfl ?_
  cases hx
  obtain rfl := hM
  exact ev_retI hk rfl rfl
def qM_violations_4 (S : Nat) (xs : Nat → Int32) (I : zI) (C : zC) (Y : Nat → Int32) (Γ : Nat → zG) (D : zD) (O : Nat → Int32) (M : zM) (ou : Nat → Int64) (od : Nat → UInt64) (j : Nat) (y : (Option Value ⊕ String) × px_H) (s : Int32 × Int32) : Prop := Ev S xs 192 4 [some (.ref 247), some (.int s.1), some (.int s.2)] [] (zH I C Y Γ D O M ou od j) y
def qM_violations_55 (S : Nat) (xs : Nat → Int32) (I : zI) (C : zC) (Y : Nat → Int32) (Γ : Nat → zG) (D : zD) (O : Nat → Int32) (M : zM) (ou : Nat → Int64) (od : Nat → UInt64) (j : Nat) (y : (Option Value ⊕ String) × px_H) (s : Int32 × Int32) : Prop := Ev S xs 192 55 [some (.ref 247), some (.int s.1), some (.int s.2)] [] (zH I C Y Γ D O M ou od j) y
def qM_violations_99 (S : Nat) (xs : Nat → Int32) (I : zI) (C : zC) (Y : Nat → Int32) (Γ : Nat → zG) (D : zD) (O : Nat → Int32) (M : zM) (ou : Nat → Int64) (od : Nat → UInt64) (j : Nat) (y : (Option Value ⊕ String) × px_H) (s : Int32 × Int32) : Prop := Ev S xs 192 99 [some (.ref 247), some (.int s.1), some (.int s.2)] [] (zH I C Y Γ D O M ou od j) y
set_option maxRecDepth 4000 in
theorem rM_violations_j42 {S : Nat} {xs : Nat → Int32} {I : zI} {C : zC} {Y : Nat → Int32} {Γ : Nat → zG} {D : zD} {O : Nat → Int32} {M : zM} {ou : Nat → Int64} {od : Nat → UInt64} {j : Nat} {a2 : Int32} {a0t : Bool} {a1t : Int32} {y : (Option Value ⊕ String) × px_H} {x : (Int32 × Int32) ⊕ (Int32 × zM)}  (hx : fM_violations_j42 M a2 a0t a1t = some x) (hM : (Sum.elim (qM_violations_4 S xs I C Y Γ D O M ou od j y) (fun X : Int32 × zM => y = (((.inl (some (.int X.1))), (zH I C Y Γ D O X.2 ou od j)) : (Option Value ⊕ String) × px_H))) x) (u1 : Option Value) (hu1 : px_cz u1 = true) : Ev S xs 192 42 [some (.ref 247), u1, some (.int a2)] [.int (b2i a0t), .int a1t] (zH I C Y Γ D O M ou od j) y := by
  have hk : pt_mt[192]? = some pt_r192 := rfl
  unfold fM_violations_j42 at hx
  refine ev_cs 189 1 [.int (fM_truth a0t), .int a1t] 45 hk rfl rfl (by decide) rfl rfl rfl (rM_truth rfl) rfl rfl rfl rfl ?_
  refine ev_op (st' := [.int (a1t + (fM_truth a0t))]) (pc' := 46) hk (.iadd) 1 rfl rfl rfl ?_
  refine ev_ls (L' := [some (.ref 247), some (.int (a1t + (fM_truth a0t))), some (.int a2)]) (st' := []) (pc' := 47) hk (.istore_n 1) 1 rfl rfl rfl rfl ?_
  refine ev_ls (L' := [some (.ref 247), some (.int (a1t + (fM_truth a0t))), some (.int (a2 + 1))]) (st' := []) (pc' := 50) hk (.iinc 2 1) 3 rfl rfl rfl rfl ?_
  refine ev_jp (pc' := 4) (st' := []) hk (.goto (-46)) 3 rfl rfl rfl rfl rfl ?_
  cases hx
  exact hM
set_option maxRecDepth 4000 in
theorem rM_violations_j41 {S : Nat} {xs : Nat → Int32} {I : zI} {C : zC} {Y : Nat → Int32} {Γ : Nat → zG} {D : zD} {O : Nat → Int32} {M : zM} {ou : Nat → Int64} {od : Nat → UInt64} {j : Nat} {a2 : Int32} {a0t : Int32} {y : (Option Value ⊕ String) × px_H} {x : (Int32 × Int32) ⊕ (Int32 × zM)}  (hx : fM_violations_j41 M a2 a0t = some x) (hM : (Sum.elim (qM_violations_4 S xs I C Y Γ D O M ou od j y) (fun X : Int32 × zM => y = (((.inl (some (.int X.1))), (zH I C Y Γ D O X.2 ou od j)) : (Option Value ⊕ String) × px_H))) x) (u1 : Option Value) (hu1 : px_cz u1 = true) : Ev S xs 192 41 [some (.ref 247), u1, some (.int a2)] [.int a0t] (zH I C Y Γ D O M ou od j) y := by
  have hk : pt_mt[192]? = some pt_r192 := rfl
  unfold fM_violations_j41 at hx
  refine ev_op (st' := [.int 0, .int a0t]) (pc' := 42) hk (.iconst 0) 1 rfl rfl rfl ?_
  exact rM_violations_j42 hx hM u1 hu1
set_option maxRecDepth 4000 in
theorem rM_violations_b99 {S : Nat} {xs : Nat → Int32} {I : zI} {C : zC} {Y : Nat → Int32} {Γ : Nat → zG} {D : zD} {O : Nat → Int32} {M : zM} {ou : Nat → Int64} {od : Nat → UInt64} {j : Nat}  {y : (Option Value ⊕ String) × px_H} {s : Int32 × Int32} {x : (Int32 × Int32) ⊕ (Int32 × zM)}  (hx : fM_violations_b99 M s.1 s.2 = some x) (hM : (Sum.elim (qM_violations_99 S xs I C Y Γ D O M ou od j y) (fun X : Int32 × zM => y = (((.inl (some (.int X.1))), (zH I C Y Γ D O X.2 ou od j)) : (Option Value ⊕ String) × px_H))) x) : qM_violations_99 S xs I C Y Γ D O M ou od j y s := by
  obtain ⟨a1, a2⟩ := s
  have hk : pt_mt[192]? = some pt_r192 := rfl
  unfold fM_violations_b99 at hx
  try dsimp only at hx
  refine ev_ls (L' := [some (.ref 247), some (.int a1), some (.int a2)]) (st' := [.int a2]) (pc' := 100) hk (.iload_n 2) 1 rfl rfl rfl rfl ?_
  refine ev_ls (L' := [some (.ref 247), some (.int a1), some (.int a2)]) (st' := [.ref 247, .int a2]) (pc' := 101) hk (.aload_n 0) 1 rfl rfl rfl rfl ?_
  refine ev_gf (.ref 249) 104 hk rfl rfl lk_model rfl rfl ?_
  refine ev_op (st' := [.int 2, .ref 249, .int a2]) (pc' := 105) hk (.iconst 2) 1 rfl rfl rfl ?_
  refine ev_ial (v := ((mA M 249) 2)) rfl 106 hk rfl lk_m249 rfl ?_
  refine ev_d2 126 109 hk rfl rfl rfl rfl (px_cge hx (fun hc hx => ?_) (fun hc hx => ?_))
  · refine ev_ls (L' := [some (.ref 247), some (.int a1), some (.int a2)]) (st' := [.ref 247]) (pc' := 127) hk (.aload_n 0) 1 rfl rfl rfl rfl ?_
    refine ev_ls (L' := [some (.ref 247), some (.int a1), some (.int a2)]) (st' := [.int a1, .ref 247]) (pc' := 128) hk (.iload_n 1) 1 rfl rfl rfl rfl ?_
    obtain ⟨v15, M14, hc16, hx⟩ := bnd2_some hx
    refine ev_cv 184 1 [.int v15] 131 hk rfl rfl rfl rfl lk_model rfl rfl rfl (rM_told hc16) rfl rfl rfl rfl ?_
    cases hx
    obtain rfl := hM
    exact ev_retI hk rfl rfl
  · refine ev_ls (L' := [some (.ref 247), some (.int a1), some (.int a2)]) (st' := [.int a1]) (pc' := 110) hk (.iload_n 1) 1 rfl rfl rfl rfl ?_
    refine ev_ls (L' := [some (.ref 247), some (.int a1), some (.int a2)]) (st' := [.ref 247, .int a1]) (pc' := 111) hk (.aload_n 0) 1 rfl rfl rfl rfl ?_
    refine ev_ls (L' := [some (.ref 247), some (.int a1), some (.int a2)]) (st' := [.int a2, .ref 247, .int a1]) (pc' := 112) hk (.iload_n 2) 1 rfl rfl rfl rfl ?_
    obtain ⟨v17, hc18, hx⟩ := bnd_some hx
    refine ev_cv 95 1 [.int (b2i v17), .int a1] 115 hk rfl rfl rfl rfl lk_model rfl rfl rfl (rM_isStrangeLabel hc18) rfl rfl rfl rfl ?_
    refine ev_cs 189 1 [.int (fM_truth v17), .int a1] 118 hk rfl rfl (by decide) rfl rfl rfl (rM_truth rfl) rfl rfl rfl rfl ?_
    refine ev_op (st' := [.int (a1 + (fM_truth v17))]) (pc' := 119) hk (.iadd) 1 rfl rfl rfl ?_
    refine ev_ls (L' := [some (.ref 247), some (.int (a1 + (fM_truth v17))), some (.int a2)]) (st' := []) (pc' := 120) hk (.istore_n 1) 1 rfl rfl rfl rfl ?_
    refine ev_ls (L' := [some (.ref 247), some (.int (a1 + (fM_truth v17))), some (.int (a2 + 1))]) (st' := []) (pc' := 123) hk (.iinc 2 1) 3 rfl rfl rfl rfl ?_
    refine ev_jp (pc' := 99) (st' := []) hk (.goto (-24)) 3 rfl rfl rfl rfl rfl ?_
    cases hx
    exact hM
set_option maxRecDepth 4000 in
theorem rM_violations_b55 {S : Nat} {xs : Nat → Int32} {I : zI} {C : zC} {Y : Nat → Int32} {Γ : Nat → zG} {D : zD} {O : Nat → Int32} {M : zM} {ou : Nat → Int64} {od : Nat → UInt64} {j : Nat}  {y : (Option Value ⊕ String) × px_H} {s : Int32 × Int32} {x : (Int32 × Int32) ⊕ (Int32 × zM)}  (hx : fM_violations_b55 M s.1 s.2 = some x) (hM : (Sum.elim (qM_violations_55 S xs I C Y Γ D O M ou od j y) (fun X : Int32 × zM => y = (((.inl (some (.int X.1))), (zH I C Y Γ D O X.2 ou od j)) : (Option Value ⊕ String) × px_H))) x) : qM_violations_55 S xs I C Y Γ D O M ou od j y s := by
  obtain ⟨a1, a2⟩ := s
  have hk : pt_mt[192]? = some pt_r192 := rfl
  unfold fM_violations_b55 at hx
  try dsimp only at hx
  refine ev_ls (L' := [some (.ref 247), some (.int a1), some (.int a2)]) (st' := [.int a2]) (pc' := 56) hk (.iload_n 2) 1 rfl rfl rfl rfl ?_
  refine ev_op (st' := [.int 9, .int a2]) (pc' := 58) hk (.bipush 9) 2 rfl rfl rfl ?_
  refine ev_d2 97 61 hk rfl rfl rfl rfl (px_cge hx (fun hc hx => ?_) (fun hc hx => ?_))
  · refine ev_op (st' := [.int 0]) (pc' := 98) hk (.iconst 0) 1 rfl rfl rfl ?_
    refine ev_ls (L' := [some (.ref 247), some (.int a1), some (.int 0)]) (st' := []) (pc' := 99) hk (.istore_n 2) 1 rfl rfl rfl rfl ?_
    obtain ⟨X, hx2, hX⟩ := Option.map_eq_some_iff.mp hx
    clear hx; subst hX; have hx := hx2; clear hx2
    exact ev_iter (qM_violations_99 S xs I C Y Γ D O M ou od j _) (fun X : Int32 × zM => y = (((.inl (some (.int X.1))), (zH I C Y Γ D O X.2 ou od j)) : (Option Value ⊕ String) × px_H)) (fun s x hb hM => rM_violations_b99 hb hM) fu _ _ hx hM 
  · refine ev_ls (L' := [some (.ref 247), some (.int a1), some (.int a2)]) (st' := [.int a1]) (pc' := 62) hk (.iload_n 1) 1 rfl rfl rfl rfl ?_
    refine ev_ls (L' := [some (.ref 247), some (.int a1), some (.int a2)]) (st' := [.ref 247, .int a1]) (pc' := 63) hk (.aload_n 0) 1 rfl rfl rfl rfl ?_
    refine ev_ls (L' := [some (.ref 247), some (.int a1), some (.int a2)]) (st' := [.int a2, .ref 247, .int a1]) (pc' := 64) hk (.iload_n 2) 1 rfl rfl rfl rfl ?_
    obtain ⟨v9, hc10, hx⟩ := bnd_some hx
    refine ev_cv 94 1 [.int (b2i v9), .int a1] 67 hk rfl rfl rfl rfl lk_model rfl rfl rfl (rM_isStrangeBand hc10) rfl rfl rfl rfl ?_
    refine ev_cs 189 1 [.int (fM_truth v9), .int a1] 70 hk rfl rfl (by decide) rfl rfl rfl (rM_truth rfl) rfl rfl rfl rfl ?_
    refine ev_ls (L' := [some (.ref 247), some (.int a1), some (.int a2)]) (st' := [.ref 247, .int (fM_truth v9), .int a1]) (pc' := 71) hk (.aload_n 0) 1 rfl rfl rfl rfl ?_
    refine ev_ls (L' := [some (.ref 247), some (.int a1), some (.int a2)]) (st' := [.int a2, .ref 247, .int (fM_truth v9), .int a1]) (pc' := 72) hk (.iload_n 2) 1 rfl rfl rfl rfl ?_
    refine ev_op (st' := [.int 1, .int a2, .ref 247, .int (fM_truth v9), .int a1]) (pc' := 73) hk (.iconst 1) 1 rfl rfl rfl ?_
    refine ev_op (st' := [.int (a2 + 1), .ref 247, .int (fM_truth v9), .int a1]) (pc' := 74) hk (.iadd) 1 rfl rfl rfl ?_
    refine ev_ls (L' := [some (.ref 247), some (.int a1), some (.int a2)]) (st' := [.ref 247, .int (a2 + 1), .ref 247, .int (fM_truth v9), .int a1]) (pc' := 75) hk (.aload_n 0) 1 rfl rfl rfl rfl ?_
    refine ev_gf (.ref 249) 78 hk rfl rfl lk_model rfl rfl ?_
    refine ev_op (st' := [.int 5, .ref 249, .int (a2 + 1), .ref 247, .int (fM_truth v9), .int a1]) (pc' := 79) hk (.iconst 5) 1 rfl rfl rfl ?_
    refine ev_ls (L' := [some (.ref 247), some (.int a1), some (.int a2)]) (st' := [.int a2, .int 5, .ref 249, .int (a2 + 1), .ref 247, .int (fM_truth v9), .int a1]) (pc' := 80) hk (.iload_n 2) 1 rfl rfl rfl rfl ?_
    refine ev_op (st' := [.int (5 + a2), .ref 249, .int (a2 + 1), .ref 247, .int (fM_truth v9), .int a1]) (pc' := 81) hk (.iadd) 1 rfl rfl rfl ?_
    obtain ⟨v11, hv11, hx⟩ := bnd_some hx
    refine ev_ial hv11 82 hk rfl lk_m249 rfl ?_
    obtain ⟨v12, hc13, hx⟩ := bnd_some hx
    refine ev_cv 82 2 [.int (b2i v12), .int (fM_truth v9), .int a1] 85 hk rfl rfl rfl rfl lk_model rfl rfl rfl (rM_isFar hc13) rfl rfl rfl rfl ?_
    refine ev_cs 189 1 [.int (fM_truth v12), .int (fM_truth v9), .int a1] 88 hk rfl rfl (by decide) rfl rfl rfl (rM_truth rfl) rfl rfl rfl rfl ?_
    refine ev_op (st' := [.int ((fM_truth v9) + (fM_truth v12)), .int a1]) (pc' := 89) hk (.iadd) 1 rfl rfl rfl ?_
    refine ev_op (st' := [.int (a1 + ((fM_truth v9) + (fM_truth v12)))]) (pc' := 90) hk (.iadd) 1 rfl rfl rfl ?_
    refine ev_ls (L' := [some (.ref 247), some (.int (a1 + ((fM_truth v9) + (fM_truth v12)))), some (.int a2)]) (st' := []) (pc' := 91) hk (.istore_n 1) 1 rfl rfl rfl rfl ?_
    refine ev_ls (L' := [some (.ref 247), some (.int (a1 + ((fM_truth v9) + (fM_truth v12)))), some (.int (a2 + 1))]) (st' := []) (pc' := 94) hk (.iinc 2 1) 3 rfl rfl rfl rfl ?_
    refine ev_jp (pc' := 55) (st' := []) hk (.goto (-39)) 3 rfl rfl rfl rfl rfl ?_
    cases hx
    exact hM
set_option maxRecDepth 4000 in
theorem rM_violations_b4 {S : Nat} {xs : Nat → Int32} {I : zI} {C : zC} {Y : Nat → Int32} {Γ : Nat → zG} {D : zD} {O : Nat → Int32} {M : zM} {ou : Nat → Int64} {od : Nat → UInt64} {j : Nat}  {y : (Option Value ⊕ String) × px_H} {s : Int32 × Int32} {x : (Int32 × Int32) ⊕ (Int32 × zM)}  (hx : fM_violations_b4 M s.1 s.2 = some x) (hM : (Sum.elim (qM_violations_4 S xs I C Y Γ D O M ou od j y) (fun X : Int32 × zM => y = (((.inl (some (.int X.1))), (zH I C Y Γ D O X.2 ou od j)) : (Option Value ⊕ String) × px_H))) x) : qM_violations_4 S xs I C Y Γ D O M ou od j y s := by
  obtain ⟨a1, a2⟩ := s
  have hk : pt_mt[192]? = some pt_r192 := rfl
  unfold fM_violations_b4 at hx
  try dsimp only at hx
  refine ev_ls (L' := [some (.ref 247), some (.int a1), some (.int a2)]) (st' := [.int a2]) (pc' := 5) hk (.iload_n 2) 1 rfl rfl rfl rfl ?_
  refine ev_ls (L' := [some (.ref 247), some (.int a1), some (.int a2)]) (st' := [.ref 247, .int a2]) (pc' := 6) hk (.aload_n 0) 1 rfl rfl rfl rfl ?_
  refine ev_gf (.ref 249) 9 hk rfl rfl lk_model rfl rfl ?_
  refine ev_op (st' := [.int 1, .ref 249, .int a2]) (pc' := 10) hk (.iconst 1) 1 rfl rfl rfl ?_
  refine ev_ial (v := ((mA M 249) 1)) rfl 11 hk rfl lk_m249 rfl ?_
  refine ev_d2 53 14 hk rfl rfl rfl rfl (px_cge hx (fun hc hx => ?_) (fun hc hx => ?_))
  · refine ev_op (st' := [.int 0]) (pc' := 54) hk (.iconst 0) 1 rfl rfl rfl ?_
    refine ev_ls (L' := [some (.ref 247), some (.int a1), some (.int 0)]) (st' := []) (pc' := 55) hk (.istore_n 2) 1 rfl rfl rfl rfl ?_
    obtain ⟨X, hx2, hX⟩ := Option.map_eq_some_iff.mp hx
    clear hx; subst hX; have hx := hx2; clear hx2
    exact ev_iter (qM_violations_55 S xs I C Y Γ D O M ou od j _) (fun X : Int32 × zM => y = (((.inl (some (.int X.1))), (zH I C Y Γ D O X.2 ou od j)) : (Option Value ⊕ String) × px_H)) (fun s x hb hM => rM_violations_b55 hb hM) fu _ _ hx hM 
  · refine ev_ls (L' := [some (.ref 247), some (.int a1), some (.int a2)]) (st' := [.int a1]) (pc' := 15) hk (.iload_n 1) 1 rfl rfl rfl rfl ?_
    refine ev_ls (L' := [some (.ref 247), some (.int a1), some (.int a2)]) (st' := [.ref 247, .int a1]) (pc' := 16) hk (.aload_n 0) 1 rfl rfl rfl rfl ?_
    refine ev_ls (L' := [some (.ref 247), some (.int a1), some (.int a2)]) (st' := [.int a2, .ref 247, .int a1]) (pc' := 17) hk (.iload_n 2) 1 rfl rfl rfl rfl ?_
    obtain ⟨v3, hc4, hx⟩ := bnd_some hx
    refine ev_cv 187 1 [.int (b2i v3), .int a1] 20 hk rfl rfl rfl rfl lk_model rfl rfl rfl (rM_travels hc4) rfl rfl rfl rfl ?_
    refine ev_d1 41 23 hk rfl rfl rfl rfl (px_beq hx (fun hc hx => ?_) (fun hc hx => ?_))
    · exact rM_violations_j41 hx hM (some (.int a1)) rfl
    · refine ev_ls (L' := [some (.ref 247), some (.int a1), some (.int a2)]) (st' := [.ref 247, .int a1]) (pc' := 24) hk (.aload_n 0) 1 rfl rfl rfl rfl ?_
      refine ev_ls (L' := [some (.ref 247), some (.int a1), some (.int a2)]) (st' := [.int a2, .ref 247, .int a1]) (pc' := 25) hk (.iload_n 2) 1 rfl rfl rfl rfl ?_
      refine ev_op (st' := [.int 5, .int a2, .ref 247, .int a1]) (pc' := 26) hk (.iconst 5) 1 rfl rfl rfl ?_
      obtain ⟨v5, hc6, hx⟩ := bnd_some hx
      refine ev_cv 145 2 [.int v5, .int a1] 29 hk rfl rfl rfl rfl lk_model rfl rfl rfl (rM_of hc6) rfl rfl rfl rfl ?_
      refine ev_ls (L' := [some (.ref 247), some (.int a1), some (.int a2)]) (st' := [.ref 247, .int v5, .int a1]) (pc' := 30) hk (.aload_n 0) 1 rfl rfl rfl rfl ?_
      refine ev_ls (L' := [some (.ref 247), some (.int a1), some (.int a2)]) (st' := [.int a2, .ref 247, .int v5, .int a1]) (pc' := 31) hk (.iload_n 2) 1 rfl rfl rfl rfl ?_
      obtain ⟨v7, hc8, hx⟩ := bnd_some hx
      refine ev_cv 43 1 [.int v7, .int v5, .int a1] 34 hk rfl rfl rfl rfl lk_model rfl rfl rfl (rM_dayNow hc8) rfl rfl rfl rfl ?_
      refine ev_d2 41 37 hk rfl rfl rfl rfl (px_ceq hx (fun hc hx => ?_) (fun hc hx => ?_))
      · exact rM_violations_j41 hx hM (some (.int a1)) rfl
      · refine ev_op (st' := [.int 1, .int a1]) (pc' := 38) hk (.iconst 1) 1 rfl rfl rfl ?_
        refine ev_jp (pc' := 42) (st' := [.int 1, .int a1]) hk (.goto 4) 3 rfl rfl rfl rfl rfl ?_
        exact rM_violations_j42 hx hM (some (.int a1)) rfl
set_option maxRecDepth 2000 in
theorem rM_violations {S : Nat} {xs : Nat → Int32} {I : zI} {C : zC} {Y : Nat → Int32} {Γ : Nat → zG} {D : zD} {O : Nat → Int32} {M : zM} {ou : Nat → Int64} {od : Nat → UInt64} {j : Nat}  {X : Int32 × zM}   (hx : fM_violations M = some X) : Ev S xs 192 0 [some (.ref 247), none, none] [] (zH I C Y Γ D O M ou od j) (((.inl (some (.int X.1))), (zH I C Y Γ D O X.2 ou od j)) : (Option Value ⊕ String) × px_H) := by
  generalize hM : (((.inl (some (.int X.1))), (zH I C Y Γ D O X.2 ou od j)) : (Option Value ⊕ String) × px_H) = y
  replace hM := hM.symm
  have hk : pt_mt[192]? = some pt_r192 := rfl
  unfold fM_violations at hx
  refine ev_op (st' := [.int 0]) (pc' := 1) hk (.iconst 0) 1 rfl rfl rfl ?_
  refine ev_ls (L' := [some (.ref 247), some (.int 0), none]) (st' := []) (pc' := 2) hk (.istore_n 1) 1 rfl rfl rfl rfl ?_
  refine ev_op (st' := [.int 0]) (pc' := 3) hk (.iconst 0) 1 rfl rfl rfl ?_
  refine ev_ls (L' := [some (.ref 247), some (.int 0), some (.int 0)]) (st' := []) (pc' := 4) hk (.istore_n 2) 1 rfl rfl rfl rfl ?_
  exact ev_iter (qM_violations_4 S xs I C Y Γ D O M ou od j _) (fun X : Int32 × zM => y = (((.inl (some (.int X.1))), (zH I C Y Γ D O X.2 ou od j)) : (Option Value ⊕ String) × px_H)) (fun s x hb hM => rM_violations_b4 hb hM) fu _ _ hx hM 
set_option maxRecDepth 2000 in
theorem rX_needSpot {S : Nat} {xs : Nat → Int32} {I : zI} {C : zC} {Y : Nat → Int32} {Γ : Nat → zG} {D : zD} {O : Nat → Int32} {M : zM} {ou : Nat → Int64} {od : Nat → UInt64} {j : Nat} {a1 : Int32} {X : (Unit ⊕ String)}   (hx : fX_needSpot Γ a1 = some X) : Ev S xs 344 0 [some (.ref 0), some (.int a1)] [] (zH I C Y Γ D O M ou od j) (Sum.elim (fun v => ((.inl none), (zH I C Y Γ D O M ou od j))) (fun E => (.inr E, (zH I C Y Γ D O M ou od (j + 1)))) X : (Option Value ⊕ String) × px_H) := by
  generalize hM : (Sum.elim (fun v => ((.inl none), (zH I C Y Γ D O M ou od j))) (fun E => (.inr E, (zH I C Y Γ D O M ou od (j + 1)))) X : (Option Value ⊕ String) × px_H) = y
  replace hM := hM.symm
  have hk : pt_mt[344]? = some pt_r344 := rfl
  unfold fX_needSpot at hx
  refine ev_ls (L' := [some (.ref 0), some (.int a1)]) (st' := [.ref 0]) (pc' := 1) hk (.aload_n 0) 1 rfl rfl rfl rfl ?_
  refine ev_gf (.ref 10) 4 hk rfl rfl lk_dh rfl rfl ?_
  refine ev_ls (L' := [some (.ref 0), some (.int a1)]) (st' := [.int a1, .ref 10]) (pc' := 5) hk (.iload_n 1) 1 rfl rfl rfl rfl ?_
  refine ev_cv 224 1 [.int (b2i (fG_hasSpot (Γ 10) a1))] 8 hk rfl rfl rfl rfl (lk_globe isG_10 rfl) rfl rfl rfl (ev_gs2 (rG_hasSpot isG_10 rfl)) rfl rfl rfl rfl ?_
  refine ev_d1 22 11 hk rfl rfl rfl rfl (px_bne hx (fun hc hx => ?_) (fun hc hx => ?_))
  · cases hx
    obtain rfl := hM
    exact ev_retv hk rfl rfl
  · cases hx
    obtain rfl := hM
    exact ev_tw hk rfl (by rfl) rfl zH_j
set_option maxRecDepth 4000 in
theorem rX_meridianAfter_j16 {S : Nat} {xs : Nat → Int32} {I : zI} {C : zC} {Y : Nat → Int32} {Γ : Nat → zG} {D : zD} {O : Nat → Int32} {M : zM} {ou : Nat → Int64} {od : Nat → UInt64} {j : Nat}  {y : (Option Value ⊕ String) × px_H} {x : (Int32 ⊕ String) × (Nat → zG)}  (hx : fX_meridianAfter_j16 Γ = some x) (hM : (fun X : (Int32 ⊕ String) × (Nat → zG) => y = (Sum.elim (fun v => ((.inl (some (.int v))), (zH I C Y X.2 D O M ou od j))) (fun E => (.inr E, (zH I C Y X.2 D O M ou od (j + 1)))) X.1 : (Option Value ⊕ String) × px_H)) x) (u0 : Option Value) (hu0 : px_cz u0 = true) (u1 : Option Value) (hu1 : px_cz u1 = true) (u2 : Option Value) (hu2 : px_cz u2 = true) : Ev S xs 335 16 [u0, u1, u2] [] (zH I C Y Γ D O M ou od j) y := by
  have hk : pt_mt[335]? = some pt_r335 := rfl
  unfold fX_meridianAfter_j16 at hx
  cases hx
  obtain rfl := hM
  exact ev_tw hk rfl (by rfl) rfl zH_j
set_option maxRecDepth 2000 in
theorem rX_meridianAfter {S : Nat} {xs : Nat → Int32} {I : zI} {C : zC} {Y : Nat → Int32} {Γ : Nat → zG} {D : zD} {O : Nat → Int32} {M : zM} {ou : Nat → Int64} {od : Nat → UInt64} {j : Nat} {a1 : Int32} {a2 : Int32} {X : (Int32 ⊕ String) × (Nat → zG)}   (hx : fX_meridianAfter Γ a1 a2 = some X) : Ev S xs 335 0 [some (.ref 0), some (.int a1), some (.int a2)] [] (zH I C Y Γ D O M ou od j) (Sum.elim (fun v => ((.inl (some (.int v))), (zH I C Y X.2 D O M ou od j))) (fun E => (.inr E, (zH I C Y X.2 D O M ou od (j + 1)))) X.1 : (Option Value ⊕ String) × px_H) := by
  generalize hM : (Sum.elim (fun v => ((.inl (some (.int v))), (zH I C Y X.2 D O M ou od j))) (fun E => (.inr E, (zH I C Y X.2 D O M ou od (j + 1)))) X.1 : (Option Value ⊕ String) × px_H) = y
  replace hM := hM.symm
  have hk : pt_mt[335]? = some pt_r335 := rfl
  unfold fX_meridianAfter at hx
  refine ev_ls (L' := [some (.ref 0), some (.int a1), some (.int a2)]) (st' := [.ref 0]) (pc' := 1) hk (.aload_n 0) 1 rfl rfl rfl rfl ?_
  refine ev_ls (L' := [some (.ref 0), some (.int a1), some (.int a2)]) (st' := [.int a1, .ref 0]) (pc' := 2) hk (.iload_n 1) 1 rfl rfl rfl rfl ?_
  rcases bnx_some hx with ⟨⟨⟩, hc2, hx⟩ | ⟨E3, hc2, hx⟩
  · skip
    refine ev_cv 344 1 [] 5 hk rfl rfl rfl rfl lk_dh rfl rfl rfl (rX_needSpot hc2) rfl rfl rfl rfl ?_
    refine ev_ls (L' := [some (.ref 0), some (.int a1), some (.int a2)]) (st' := [.int a2]) (pc' := 6) hk (.iload_n 2) 1 rfl rfl rfl rfl ?_
    refine ev_d1 16 9 hk rfl rfl rfl rfl (px_clt hx (fun hc hx => ?_) (fun hc hx => ?_))
    · exact rX_meridianAfter_j16 hx hM (some (.ref 0)) rfl (some (.int a1)) rfl (some (.int a2)) rfl
    · refine ev_ls (L' := [some (.ref 0), some (.int a1), some (.int a2)]) (st' := [.int a2]) (pc' := 10) hk (.iload_n 2) 1 rfl rfl rfl rfl ?_
      refine ev_op (st' := [.int 300, .int a2]) (pc' := 13) hk (.sipush 300) 3 rfl rfl rfl ?_
      refine ev_d2 27 16 hk rfl rfl rfl rfl (px_cle hx (fun hc hx => ?_) (fun hc hx => ?_))
      · refine ev_ls (L' := [some (.ref 0), some (.int a1), some (.int a2)]) (st' := [.ref 0]) (pc' := 28) hk (.aload_n 0) 1 rfl rfl rfl rfl ?_
        refine ev_gf (.ref 36) 31 hk rfl rfl lk_dh rfl rfl ?_
        refine ev_ls (L' := [some (.ref 0), some (.int a1), some (.int a2)]) (st' := [.ref 0, .ref 36]) (pc' := 32) hk (.aload_n 0) 1 rfl rfl rfl rfl ?_
        refine ev_gf (.ref 10) 35 hk rfl rfl lk_dh rfl rfl ?_
        obtain ⟨G5, hc6, hx⟩ := bnd_some hx
        refine ev_cv 217 1 [] 38 hk rfl rfl rfl rfl (lk_globe isG_36 rfl) rfl rfl rfl (ev_gs (rG_copyFrom isG_36 isG_10 (by decide) rfl hc6)) rfl rfl rfl rfl ?_
        refine ev_ls (L' := [some (.ref 0), some (.int a1), some (.int a2)]) (st' := [.ref 0]) (pc' := 39) hk (.aload_n 0) 1 rfl rfl rfl rfl ?_
        refine ev_gf (.ref 36) 42 hk rfl rfl lk_dh rfl rfl ?_
        refine ev_ls (L' := [some (.ref 0), some (.int a1), some (.int a2)]) (st' := [.int a2, .ref 36]) (pc' := 43) hk (.iload_n 2) 1 rfl rfl rfl rfl ?_
        obtain ⟨v8, G7, hc9, hx⟩ := bnd2_some hx
        refine ev_cv 234 1 [.int v8] 46 hk rfl rfl rfl rfl (lk_globe isG_36 rfl) rfl rfl rfl (ev_gs (rG_letPass isG_36 hc9)) rfl rfl rfl rfl ?_
        refine ev_op (st' := []) (pc' := 47) hk (.pop) 1 rfl rfl rfl ?_
        refine ev_ls (L' := [some (.ref 0), some (.int a1), some (.int a2)]) (st' := [.ref 0]) (pc' := 48) hk (.aload_n 0) 1 rfl rfl rfl rfl ?_
        refine ev_gf (.ref 36) 51 hk rfl rfl lk_dh rfl rfl ?_
        refine ev_gf (.ref (36 + 6)) 54 hk rfl rfl (lk_globe isG_36 rfl) rfl rfl ?_
        refine ev_ls (L' := [some (.ref 0), some (.int a1), some (.int a2)]) (st' := [.int a1, .ref (36 + 6)]) (pc' := 55) hk (.iload_n 1) 1 rfl rfl rfl rfl ?_
        obtain ⟨p10, hp10, hx⟩ := bnd_some hx
        have hpp10 := rix_lt hp10
        refine ev_aal (36 + (7 + p10)) hp10 56 hk rfl (lk_spots isG_36 rfl) (by decide) (lk_sp hpp10) rfl ?_
        refine ev_gf (.int (gF ((gup (gup Γ 36 G5) 36 G7) 36) (7 + p10) 3)) 59 hk rfl rfl (lk_spot isG_36 hpp10 rfl) rfl rfl ?_
        cases hx
        obtain rfl := hM
        exact ev_retI hk rfl rfl
      · exact rX_meridianAfter_j16 hx hM (some (.ref 0)) rfl (some (.int a1)) rfl (some (.int a2)) rfl
  · skip
    cases hx
    obtain rfl := hM
    exact ev_cvX 344 1 hk rfl rfl rfl rfl lk_dh rfl rfl rfl rfl (rX_needSpot hc2) rfl rfl
set_option maxRecDepth 2000 in
theorem rw_meridianAfter {S : Nat} {xs : Nat → Int32} {I : zI} {C : zC} {Y : Nat → Int32} {Γ : Nat → zG} {D : zD} {O : Nat → Int32} {M : zM} {ou : Nat → Int64} {od : Nat → UInt64} {j : Nat} {a1 : Int32} {a2 : Int32} {X : Int32 × (Nat → zG) × (Nat → Int64) × Nat}   (hx : fw_meridianAfter Γ ou j a1 a2 = some X) : Ev S xs 392 0 [some (.ref 0), some (.int a1), some (.int a2), some (.ref 261), none] [] (zH I C Y Γ D O M ou od j) (((.inl (some (.int X.1))), (zH I C Y X.2.1 D O M X.2.2.1 od X.2.2.2)) : (Option Value ⊕ String) × px_H) := by
  generalize hM : (((.inl (some (.int X.1))), (zH I C Y X.2.1 D O M X.2.2.1 od X.2.2.2)) : (Option Value ⊕ String) × px_H) = y
  replace hM := hM.symm
  have hk : pt_mt[392]? = some pt_r392 := rfl
  unfold fw_meridianAfter at hx
  refine ev_ls (L' := [some (.ref 0), some (.int a1), some (.int a2), some (.ref 261), none]) (st' := [.ref 261]) (pc' := 1) hk (.aload_n 3) 1 rfl rfl rfl rfl ?_
  refine ev_op (st' := [.int 0, .ref 261]) (pc' := 2) hk (.iconst 0) 1 rfl rfl rfl ?_
  refine ev_ls (L' := [some (.ref 0), some (.int a1), some (.int a2), some (.ref 261), none]) (st' := [.ref 0, .int 0, .ref 261]) (pc' := 3) hk (.aload_n 0) 1 rfl rfl rfl rfl ?_
  refine ev_ls (L' := [some (.ref 0), some (.int a1), some (.int a2), some (.ref 261), none]) (st' := [.int a1, .ref 0, .int 0, .ref 261]) (pc' := 4) hk (.iload_n 1) 1 rfl rfl rfl rfl ?_
  refine ev_ls (L' := [some (.ref 0), some (.int a1), some (.int a2), some (.ref 261), none]) (st' := [.int a2, .int a1, .ref 0, .int 0, .ref 261]) (pc' := 5) hk (.iload_n 2) 1 rfl rfl rfl rfl ?_
  obtain ⟨r7, Γ2, hc3, hx⟩ := bnd2_some hx
  rcases r7 with v5 | E4
  · simp only [Sum.elim_inl] at hx
    refine ev_cv 335 2 [.int v5, .int 0, .ref 261] 8 hk rfl rfl rfl rfl lk_dh rfl rfl rfl (rX_meridianAfter hc3) rfl rfl rfl rfl ?_
    refine ev_op (st' := [.long (Int32.toInt64 v5), .int 0, .ref 261]) (pc' := 9) hk (.i2l) 1 rfl rfl rfl ?_
    obtain ⟨ou6, hou6, hx⟩ := bnd_some hx
    have hou6 := Option.some.inj hou6
    refine ev_las (A := (vp_updL ou 0 (Int32.toInt64 v5))) rfl 10 hk rfl lk_ou (sa_ou hou6) rfl ?_
    refine ev_jp (pc' := 21) (st' := []) hk (.goto 11) 3 rfl rfl rfl rfl rfl ?_
    refine ev_op (st' := [.int 0]) (pc' := 22) hk (.iconst 0) 1 rfl rfl rfl ?_
    cases hx
    obtain rfl := hM
    exact ev_retI hk rfl rfl
  · simp only [Sum.elim_inr] at hx
    rcases ite_or hx with ⟨hE, hx⟩ | ⟨hE, hx⟩
    · subst hE
      refine ev_cvC 335 2 15 hk rfl rfl rfl rfl lk_dh rfl rfl rfl (t := 13) (by decide +kernel) (L' := [some (.ref 0), some (.int a1), some (.int a2), some (.ref 261), none]) rfl (rX_meridianAfter hc3) rfl rfl ?_
      refine ev_op (st' := [.int 1]) (pc' := 16) hk (.iconst 1) 1 rfl rfl rfl ?_
      cases hx
      obtain rfl := hM
      exact ev_retI hk rfl rfl
    rcases ite_or hx with ⟨hE, hx⟩ | ⟨hE, hx⟩
    · subst hE
      refine ev_cvC 335 2 19 hk rfl rfl rfl rfl lk_dh rfl rfl rfl (t := 17) (by decide +kernel) (L' := [some (.ref 0), some (.int a1), some (.int a2), some (.ref 261), none]) rfl (rX_meridianAfter hc3) rfl rfl ?_
      refine ev_op (st' := [.int 2]) (pc' := 20) hk (.iconst 2) 1 rfl rfl rfl ?_
      cases hx
      obtain rfl := hM
      exact ev_retI hk rfl rfl
    cases hx
set_option maxRecDepth 2000 in
theorem rM_holds {S : Nat} {xs : Nat → Int32} {I : zI} {C : zC} {Y : Nat → Int32} {Γ : Nat → zG} {D : zD} {O : Nat → Int32} {M : zM} {ou : Nat → Int64} {od : Nat → UInt64} {j : Nat}  {X : zM}   (hx : fM_holds M = some X) : Ev S xs 72 0 [some (.ref 247)] [] (zH I C Y Γ D O M ou od j) (((.inl none), (zH I C Y Γ D O X ou od j)) : (Option Value ⊕ String) × px_H) := by
  generalize hM : (((.inl none), (zH I C Y Γ D O X ou od j)) : (Option Value ⊕ String) × px_H) = y
  replace hM := hM.symm
  have hk : pt_mt[72]? = some pt_r72 := rfl
  unfold fM_holds at hx
  refine ev_ls (L' := [some (.ref 247)]) (st' := [.ref 247]) (pc' := 1) hk (.aload_n 0) 1 rfl rfl rfl rfl ?_
  refine ev_gf (.ref 249) 4 hk rfl rfl lk_model rfl rfl ?_
  refine ev_op (st' := [.int 0, .ref 249]) (pc' := 5) hk (.iconst 0) 1 rfl rfl rfl ?_
  refine ev_ls (L' := [some (.ref 247)]) (st' := [.ref 247, .int 0, .ref 249]) (pc' := 6) hk (.aload_n 0) 1 rfl rfl rfl rfl ?_
  refine ev_gf (.ref 252) 9 hk rfl rfl lk_model rfl rfl ?_
  refine ev_op (st' := [.int 0, .ref 252, .int 0, .ref 249]) (pc' := 10) hk (.iconst 0) 1 rfl rfl rfl ?_
  obtain ⟨M1, hc2, hx⟩ := bnd_some hx
  refine ev_cs 37 4 [] 13 hk rfl rfl (by decide) rfl rfl rfl (rM_copiesRow (ma_249) (ma_252) hc2) rfl rfl rfl rfl ?_
  cases hx
  obtain rfl := hM
  exact ev_retv hk rfl rfl
set_option maxRecDepth 2000 in
theorem rM_putBack {S : Nat} {xs : Nat → Int32} {I : zI} {C : zC} {Y : Nat → Int32} {Γ : Nat → zG} {D : zD} {O : Nat → Int32} {M : zM} {ou : Nat → Int64} {od : Nat → UInt64} {j : Nat} {a1 : Int32} {X : Int32 × zM}   (hx : fM_putBack M a1 = some X) : Ev S xs 152 0 [some (.ref 247), some (.int a1)] [] (zH I C Y Γ D O M ou od j) (((.inl (some (.int X.1))), (zH I C Y Γ D O X.2 ou od j)) : (Option Value ⊕ String) × px_H) := by
  generalize hM : (((.inl (some (.int X.1))), (zH I C Y Γ D O X.2 ou od j)) : (Option Value ⊕ String) × px_H) = y
  replace hM := hM.symm
  have hk : pt_mt[152]? = some pt_r152 := rfl
  unfold fM_putBack at hx
  refine ev_ls (L' := [some (.ref 247), some (.int a1)]) (st' := [.ref 247]) (pc' := 1) hk (.aload_n 0) 1 rfl rfl rfl rfl ?_
  refine ev_gf (.ref 252) 4 hk rfl rfl lk_model rfl rfl ?_
  refine ev_op (st' := [.int 0, .ref 252]) (pc' := 5) hk (.iconst 0) 1 rfl rfl rfl ?_
  refine ev_ls (L' := [some (.ref 247), some (.int a1)]) (st' := [.ref 247, .int 0, .ref 252]) (pc' := 6) hk (.aload_n 0) 1 rfl rfl rfl rfl ?_
  refine ev_gf (.ref 249) 9 hk rfl rfl lk_model rfl rfl ?_
  refine ev_op (st' := [.int 0, .ref 249, .int 0, .ref 252]) (pc' := 10) hk (.iconst 0) 1 rfl rfl rfl ?_
  obtain ⟨M1, hc2, hx⟩ := bnd_some hx
  refine ev_cs 37 4 [] 13 hk rfl rfl (by decide) rfl rfl rfl (rM_copiesRow (ma_252) (ma_249) hc2) rfl rfl rfl rfl ?_
  refine ev_ls (L' := [some (.ref 247), some (.int a1)]) (st' := [.int a1]) (pc' := 14) hk (.iload_n 1) 1 rfl rfl rfl rfl ?_
  cases hx
  obtain rfl := hM
  exact ev_retI hk rfl rfl
set_option maxRecDepth 2000 in
theorem rM_meridianAfter {S : Nat} {xs : Nat → Int32} {I : zI} {C : zC} {Y : Nat → Int32} {Γ : Nat → zG} {D : zD} {O : Nat → Int32} {M : zM} {ou : Nat → Int64} {od : Nat → UInt64} {j : Nat} {a1 : Int32} {a2 : Int32} {X : Int32 × zM}   (hx : fM_meridianAfter M a1 a2 = some X) : Ev S xs 134 0 [some (.ref 247), some (.int a1), some (.int a2)] [] (zH I C Y Γ D O M ou od j) (((.inl (some (.int X.1))), (zH I C Y Γ D O X.2 ou od j)) : (Option Value ⊕ String) × px_H) := by
  generalize hM : (((.inl (some (.int X.1))), (zH I C Y Γ D O X.2 ou od j)) : (Option Value ⊕ String) × px_H) = y
  replace hM := hM.symm
  have hk : pt_mt[134]? = some pt_r134 := rfl
  unfold fM_meridianAfter at hx
  refine ev_ls (L' := [some (.ref 247), some (.int a1), some (.int a2)]) (st' := [.ref 247]) (pc' := 1) hk (.aload_n 0) 1 rfl rfl rfl rfl ?_
  refine ev_ls (L' := [some (.ref 247), some (.int a1), some (.int a2)]) (st' := [.ref 247, .ref 247]) (pc' := 2) hk (.aload_n 0) 1 rfl rfl rfl rfl ?_
  refine ev_ls (L' := [some (.ref 247), some (.int a1), some (.int a2)]) (st' := [.int a1, .ref 247, .ref 247]) (pc' := 3) hk (.iload_n 1) 1 rfl rfl rfl rfl ?_
  refine ev_cv 92 1 [.int (b2i (fM_isSpot M a1)), .ref 247] 6 hk rfl rfl rfl rfl lk_model rfl rfl rfl (rM_isSpot rfl) rfl rfl rfl rfl ?_
  refine ev_ls (L' := [some (.ref 247), some (.int a1), some (.int a2)]) (st' := [.int a2, .int (b2i (fM_isSpot M a1)), .ref 247]) (pc' := 7) hk (.iload_n 2) 1 rfl rfl rfl rfl ?_
  refine ev_op (st' := [.long (Int32.toInt64 a2), .int (b2i (fM_isSpot M a1)), .ref 247]) (pc' := 8) hk (.i2l) 1 rfl rfl rfl ?_
  refine ev_op (st' := [.long 0, .long (Int32.toInt64 a2), .int (b2i (fM_isSpot M a1)), .ref 247]) (pc' := 9) hk (.lconst 0) 1 rfl rfl rfl ?_
  refine ev_ldJ 300 12 hk rfl rfl rfl ?_
  refine ev_cs 86 3 [.int (b2i (fM_isIn (Int32.toInt64 a2) 0 300)), .int (b2i (fM_isSpot M a1)), .ref 247] 15 hk rfl rfl (by decide) rfl rfl rfl (rM_isIn rfl) rfl rfl rfl rfl ?_
  obtain ⟨v3, M2, hc4, hx⟩ := bnd2_some hx
  refine ev_cv 61 2 [.int (b2i v3)] 18 hk rfl rfl rfl rfl lk_model rfl rfl rfl (rM_goesBoth hc4) rfl rfl rfl rfl ?_
  refine ev_d1 23 21 hk rfl rfl rfl rfl (px_bne hx (fun hc hx => ?_) (fun hc hx => ?_))
  · refine ev_ls (L' := [some (.ref 247), some (.int a1), some (.int a2)]) (st' := [.ref 247]) (pc' := 24) hk (.aload_n 0) 1 rfl rfl rfl rfl ?_
    obtain ⟨M5, hc6, hx⟩ := bnd_some hx
    refine ev_cv 72 0 [] 27 hk rfl rfl rfl rfl lk_model rfl rfl rfl (rM_holds hc6) rfl rfl rfl rfl ?_
    refine ev_ls (L' := [some (.ref 247), some (.int a1), some (.int a2)]) (st' := [.ref 247]) (pc' := 28) hk (.aload_n 0) 1 rfl rfl rfl rfl ?_
    refine ev_ls (L' := [some (.ref 247), some (.int a1), some (.int a2)]) (st' := [.ref 247, .ref 247]) (pc' := 29) hk (.aload_n 0) 1 rfl rfl rfl rfl ?_
    refine ev_ls (L' := [some (.ref 247), some (.int a1), some (.int a2)]) (st' := [.int a2, .ref 247, .ref 247]) (pc' := 30) hk (.iload_n 2) 1 rfl rfl rfl rfl ?_
    obtain ⟨v8, M7, hc9, hx⟩ := bnd2_some hx
    refine ev_cv 149 1 [.int v8, .ref 247] 33 hk rfl rfl rfl rfl lk_model rfl rfl rfl (rM_passes hc9) rfl rfl rfl rfl ?_
    obtain ⟨M10, hM10, hx⟩ := bnd_some hx
    have hM10 := Option.some.inj hM10
    refine ev_pf 36 hk rfl rfl lk_model rfl rfl rfl (sf_8_29 hM10) rfl ?_
    refine ev_ls (L' := [some (.ref 247), some (.int a1), some (.int a2)]) (st' := [.ref 247]) (pc' := 37) hk (.aload_n 0) 1 rfl rfl rfl rfl ?_
    refine ev_ls (L' := [some (.ref 247), some (.int a1), some (.int a2)]) (st' := [.ref 247, .ref 247]) (pc' := 38) hk (.aload_n 0) 1 rfl rfl rfl rfl ?_
    refine ev_ls (L' := [some (.ref 247), some (.int a1), some (.int a2)]) (st' := [.int a1, .ref 247, .ref 247]) (pc' := 39) hk (.iload_n 1) 1 rfl rfl rfl rfl ?_
    refine ev_op (st' := [.int 4, .int a1, .ref 247, .ref 247]) (pc' := 40) hk (.iconst 4) 1 rfl rfl rfl ?_
    obtain ⟨v11, hc12, hx⟩ := bnd_some hx
    refine ev_cv 145 2 [.int v11, .ref 247] 43 hk rfl rfl rfl rfl lk_model rfl rfl rfl (rM_of hc12) rfl rfl rfl rfl ?_
    obtain ⟨v14, M13, hc15, hx⟩ := bnd2_some hx
    refine ev_cv 152 1 [.int v14] 46 hk rfl rfl rfl rfl lk_model rfl rfl rfl (rM_putBack hc15) rfl rfl rfl rfl ?_
    cases hx
    obtain rfl := hM
    exact ev_retI hk rfl rfl
  · refine ev_op (st' := [.int 0]) (pc' := 22) hk (.iconst 0) 1 rfl rfl rfl ?_
    cases hx
    obtain rfl := hM
    exact ev_retI hk rfl rfl
set_option maxRecDepth 2000 in
theorem rX_needGore {S : Nat} {xs : Nat → Int32} {I : zI} {C : zC} {Y : Nat → Int32} {Γ : Nat → zG} {D : zD} {O : Nat → Int32} {M : zM} {ou : Nat → Int64} {od : Nat → UInt64} {j : Nat} {a1 : Int32} {X : (Unit ⊕ String)}   (hx : fX_needGore Γ a1 = some X) : Ev S xs 341 0 [some (.ref 0), some (.int a1)] [] (zH I C Y Γ D O M ou od j) (Sum.elim (fun v => ((.inl none), (zH I C Y Γ D O M ou od j))) (fun E => (.inr E, (zH I C Y Γ D O M ou od (j + 1)))) X : (Option Value ⊕ String) × px_H) := by
  generalize hM : (Sum.elim (fun v => ((.inl none), (zH I C Y Γ D O M ou od j))) (fun E => (.inr E, (zH I C Y Γ D O M ou od (j + 1)))) X : (Option Value ⊕ String) × px_H) = y
  replace hM := hM.symm
  have hk : pt_mt[341]? = some pt_r341 := rfl
  unfold fX_needGore at hx
  refine ev_ls (L' := [some (.ref 0), some (.int a1)]) (st' := [.ref 0]) (pc' := 1) hk (.aload_n 0) 1 rfl rfl rfl rfl ?_
  refine ev_gf (.ref 10) 4 hk rfl rfl lk_dh rfl rfl ?_
  refine ev_gf (.ref (10 + 1)) 7 hk rfl rfl (lk_globe isG_10 rfl) rfl rfl ?_
  refine ev_ls (L' := [some (.ref 0), some (.int a1)]) (st' := [.int a1, .ref (10 + 1)]) (pc' := 8) hk (.iload_n 1) 1 rfl rfl rfl rfl ?_
  refine ev_cv 9 1 [.int (b2i (fC_hasGore (Γ 10) a1))] 11 hk rfl rfl rfl rfl (lk_cloth isG_10 rfl) rfl rfl rfl (ev_gs2 (rC_hasGore isG_10 rfl)) rfl rfl rfl rfl ?_
  refine ev_d1 25 14 hk rfl rfl rfl rfl (px_bne hx (fun hc hx => ?_) (fun hc hx => ?_))
  · cases hx
    obtain rfl := hM
    exact ev_retv hk rfl rfl
  · cases hx
    obtain rfl := hM
    exact ev_tw hk rfl (by rfl) rfl zH_j
def qC_wearAll_2 (S : Nat) (xs : Nat → Int32) (I : zI) (C : zC) (Y : Nat → Int32) (Γ : Nat → zG) (D : zD) (O : Nat → Int32) (M : zM) (ou : Nat → Int64) (od : Nat → UInt64) (j : Nat) (g : Nat) (y : (Option Value ⊕ String) × px_H) (s : zG × Int32) : Prop := Ev S xs 15 2 [some (.ref (g + 1)), some (.int s.2)] [] (zH I C Y (gup Γ g s.1) D O M ou od j) y
set_option maxRecDepth 4000 in
theorem rC_wearAll_b2 {S : Nat} {xs : Nat → Int32} {I : zI} {C : zC} {Y : Nat → Int32} {Γ : Nat → zG} {D : zD} {O : Nat → Int32} {M : zM} {ou : Nat → Int64} {od : Nat → UInt64} {j : Nat} {g : Nat}  {y : (Option Value ⊕ String) × px_H} {s : zG × Int32} {x : (zG × Int32) ⊕ (zG)} (hg : isG g) (hx : fC_wearAll_b2 s.1 s.2 = some x) (hM : (Sum.elim (qC_wearAll_2 S xs I C Y Γ D O M ou od j g y) (fun X : zG => y = (((.inl none), (zH I C Y (gup Γ g X) D O M ou od j)) : (Option Value ⊕ String) × px_H))) x) : qC_wearAll_2 S xs I C Y Γ D O M ou od j g y s := by
  obtain ⟨G, a1⟩ := s
  have hk : pt_mt[15]? = some pt_r15 := rfl
  unfold fC_wearAll_b2 at hx
  try dsimp only at hx
  refine ev_ls (L' := [some (.ref (g + 1)), some (.int a1)]) (st' := [.int a1]) (pc' := 3) hk (.iload_n 1) 1 rfl rfl rfl rfl ?_
  refine ev_ls (L' := [some (.ref (g + 1)), some (.int a1)]) (st' := [.ref (g + 1), .int a1]) (pc' := 4) hk (.aload_n 0) 1 rfl rfl rfl rfl ?_
  refine ev_gf (.int (gF G 1 0)) 7 hk rfl rfl (lk_cloth hg gup_same) rfl rfl ?_
  refine ev_d2 22 10 hk rfl rfl rfl rfl (px_cge hx (fun hc hx => ?_) (fun hc hx => ?_))
  · cases hx
    obtain rfl := hM
    exact ev_retv hk rfl rfl
  · refine ev_ls (L' := [some (.ref (g + 1)), some (.int a1)]) (st' := [.ref (g + 1)]) (pc' := 11) hk (.aload_n 0) 1 rfl rfl rfl rfl ?_
    refine ev_ls (L' := [some (.ref (g + 1)), some (.int a1)]) (st' := [.int a1, .ref (g + 1)]) (pc' := 12) hk (.iload_n 1) 1 rfl rfl rfl rfl ?_
    obtain ⟨v2, G1, hc3, hx⟩ := bnd2_some hx
    refine ev_cv 14 1 [.int (b2i v2)] 15 hk rfl rfl rfl rfl (lk_cloth hg gup_same) rfl rfl rfl (rC_wear hg hc3) rfl rfl rfl rfl ?_
    refine ev_op (st' := []) (pc' := 16) hk (.pop) 1 rfl rfl rfl ?_
    refine ev_ls (L' := [some (.ref (g + 1)), some (.int (a1 + 1))]) (st' := []) (pc' := 19) hk (.iinc 1 1) 3 rfl rfl rfl rfl ?_
    refine ev_jp (pc' := 2) (st' := []) hk (.goto (-17)) 3 rfl rfl rfl rfl rfl ?_
    cases hx
    exact hM
set_option maxRecDepth 2000 in
theorem rC_wearAll {S : Nat} {xs : Nat → Int32} {I : zI} {C : zC} {Y : Nat → Int32} {Γ : Nat → zG} {D : zD} {O : Nat → Int32} {M : zM} {ou : Nat → Int64} {od : Nat → UInt64} {j : Nat} {g : Nat} {G : zG}  {X : zG}  (hg : isG g) (hx : fC_wearAll G = some X) : Ev S xs 15 0 [some (.ref (g + 1)), none] [] (zH I C Y (gup Γ g G) D O M ou od j) (((.inl none), (zH I C Y (gup Γ g X) D O M ou od j)) : (Option Value ⊕ String) × px_H) := by
  generalize hM : (((.inl none), (zH I C Y (gup Γ g X) D O M ou od j)) : (Option Value ⊕ String) × px_H) = y
  replace hM := hM.symm
  have hk : pt_mt[15]? = some pt_r15 := rfl
  unfold fC_wearAll at hx
  refine ev_op (st' := [.int 0]) (pc' := 1) hk (.iconst 0) 1 rfl rfl rfl ?_
  refine ev_ls (L' := [some (.ref (g + 1)), some (.int 0)]) (st' := []) (pc' := 2) hk (.istore_n 1) 1 rfl rfl rfl rfl ?_
  exact ev_iter (qC_wearAll_2 S xs I C Y Γ D O M ou od j g _) (fun X : zG => y = (((.inl none), (zH I C Y (gup Γ g X) D O M ou od j)) : (Option Value ⊕ String) × px_H)) (fun s x hb hM => rC_wearAll_b2 hg hb hM) fu _ _ hx hM 
def qX_hoursUntilTear_42 (S : Nat) (xs : Nat → Int32) (I : zI) (C : zC) (Y : Nat → Int32) (D : zD) (O : Nat → Int32) (M : zM) (ou : Nat → Int64) (od : Nat → UInt64) (j : Nat) (a1 : Int32) (y : (Option Value ⊕ String) × px_H) (s : (Nat → zG) × Int32) : Prop := Ev S xs 319 42 [some (.ref 0), some (.int a1), some (.ref (36 + 1)), some (.int s.2)] [] (zH I C Y s.1 D O M ou od j) y
set_option maxRecDepth 4000 in
theorem rX_hoursUntilTear_b42 {S : Nat} {xs : Nat → Int32} {I : zI} {C : zC} {Y : Nat → Int32} {D : zD} {O : Nat → Int32} {M : zM} {ou : Nat → Int64} {od : Nat → UInt64} {j : Nat} {a1 : Int32} {y : (Option Value ⊕ String) × px_H} {s : (Nat → zG) × Int32} {x : ((Nat → zG) × Int32) ⊕ ((Int32 ⊕ String) × (Nat → zG))}  (hx : fX_hoursUntilTear_b42 a1 s.1 s.2 = some x) (hM : (Sum.elim (qX_hoursUntilTear_42 S xs I C Y D O M ou od j a1 y) (fun X : (Int32 ⊕ String) × (Nat → zG) => y = (Sum.elim (fun v => ((.inl (some (.int v))), (zH I C Y X.2 D O M ou od j))) (fun E => (.inr E, (zH I C Y X.2 D O M ou od (j + 1)))) X.1 : (Option Value ⊕ String) × px_H))) x) : qX_hoursUntilTear_42 S xs I C Y D O M ou od j a1 y s := by
  obtain ⟨Γ, a3⟩ := s
  have hk : pt_mt[319]? = some pt_r319 := rfl
  unfold fX_hoursUntilTear_b42 at hx
  try dsimp only at hx
  refine ev_ls (L' := [some (.ref 0), some (.int a1), some (.ref (36 + 1)), some (.int a3)]) (st' := [.int a3]) (pc' := 43) hk (.iload_n 3) 1 rfl rfl rfl rfl ?_
  refine ev_op (st' := [.int 300, .int a3]) (pc' := 46) hk (.sipush 300) 3 rfl rfl rfl ?_
  refine ev_d2 84 49 hk rfl rfl rfl rfl (px_cgt hx (fun hc hx => ?_) (fun hc hx => ?_))
  · refine ev_op (st' := [.int (-1)]) (pc' := 85) hk (.iconst (-1)) 1 rfl rfl rfl ?_
    cases hx
    obtain rfl := hM
    exact ev_retI hk rfl rfl
  · refine ev_ls (L' := [some (.ref 0), some (.int a1), some (.ref (36 + 1)), some (.int a3)]) (st' := [.ref 0]) (pc' := 50) hk (.aload_n 0) 1 rfl rfl rfl rfl ?_
    refine ev_gf (.ref 10) 53 hk rfl rfl lk_dh rfl rfl ?_
    refine ev_gf (.int (gF (Γ 10) 0 2)) 56 hk rfl rfl (lk_globe isG_10 rfl) rfl rfl ?_
    refine ev_ls (L' := [some (.ref 0), some (.int a1), some (.ref (36 + 1)), some (.int a3)]) (st' := [.int a3, .int (gF (Γ 10) 0 2)]) (pc' := 57) hk (.iload_n 3) 1 rfl rfl rfl rfl ?_
    refine ev_op (st' := [.int ((gF (Γ 10) 0 2) + a3)]) (pc' := 58) hk (.iadd) 1 rfl rfl rfl ?_
    refine ev_cs 229 1 [.int (b2i (fG_isWearing ((gF (Γ 10) 0 2) + a3)))] 61 hk rfl rfl (by decide) rfl rfl rfl (rG_isWearing rfl) rfl rfl rfl rfl ?_
    refine ev_d1 78 64 hk rfl rfl rfl rfl (px_beq hx (fun hc hx => ?_) (fun hc hx => ?_))
    · refine ev_ls (L' := [some (.ref 0), some (.int a1), some (.ref (36 + 1)), some (.int (a3 + 1))]) (st' := []) (pc' := 81) hk (.iinc 3 1) 3 rfl rfl rfl rfl ?_
      refine ev_jp (pc' := 42) (st' := []) hk (.goto (-39)) 3 rfl rfl rfl rfl rfl ?_
      cases hx
      exact hM
    · refine ev_ls (L' := [some (.ref 0), some (.int a1), some (.ref (36 + 1)), some (.int a3)]) (st' := [.ref (36 + 1)]) (pc' := 65) hk (.aload_n 2) 1 rfl rfl rfl rfl ?_
      obtain ⟨G1, hc2, hx⟩ := bnd_some hx
      refine ev_cv 15 0 [] 68 hk rfl rfl rfl rfl (lk_cloth isG_36 rfl) rfl rfl rfl (ev_gs (rC_wearAll isG_36 hc2)) rfl rfl rfl rfl ?_
      refine ev_ls (L' := [some (.ref 0), some (.int a1), some (.ref (36 + 1)), some (.int a3)]) (st' := [.ref (36 + 1)]) (pc' := 69) hk (.aload_n 2) 1 rfl rfl rfl rfl ?_
      refine ev_ls (L' := [some (.ref 0), some (.int a1), some (.ref (36 + 1)), some (.int a3)]) (st' := [.int a1, .ref (36 + 1)]) (pc' := 70) hk (.iload_n 1) 1 rfl rfl rfl rfl ?_
      obtain ⟨v3, hc4, hx⟩ := bnd_some hx
      refine ev_cv 11 1 [.int (b2i v3)] 73 hk rfl rfl rfl rfl (lk_cloth isG_36 rfl) rfl rfl rfl (ev_gs2 (rC_isTorn isG_36 hc4)) rfl rfl rfl rfl ?_
      refine ev_d1 78 76 hk rfl rfl rfl rfl (px_beq hx (fun hc hx => ?_) (fun hc hx => ?_))
      · refine ev_ls (L' := [some (.ref 0), some (.int a1), some (.ref (36 + 1)), some (.int (a3 + 1))]) (st' := []) (pc' := 81) hk (.iinc 3 1) 3 rfl rfl rfl rfl ?_
        refine ev_jp (pc' := 42) (st' := []) hk (.goto (-39)) 3 rfl rfl rfl rfl rfl ?_
        cases hx
        exact hM
      · refine ev_ls (L' := [some (.ref 0), some (.int a1), some (.ref (36 + 1)), some (.int a3)]) (st' := [.int a3]) (pc' := 77) hk (.iload_n 3) 1 rfl rfl rfl rfl ?_
        cases hx
        obtain rfl := hM
        exact ev_retI hk rfl rfl
set_option maxRecDepth 2000 in
theorem rX_hoursUntilTear {S : Nat} {xs : Nat → Int32} {I : zI} {C : zC} {Y : Nat → Int32} {Γ : Nat → zG} {D : zD} {O : Nat → Int32} {M : zM} {ou : Nat → Int64} {od : Nat → UInt64} {j : Nat} {a1 : Int32} {X : (Int32 ⊕ String) × (Nat → zG)}   (hx : fX_hoursUntilTear Γ a1 = some X) : Ev S xs 319 0 [some (.ref 0), some (.int a1), none, none] [] (zH I C Y Γ D O M ou od j) (Sum.elim (fun v => ((.inl (some (.int v))), (zH I C Y X.2 D O M ou od j))) (fun E => (.inr E, (zH I C Y X.2 D O M ou od (j + 1)))) X.1 : (Option Value ⊕ String) × px_H) := by
  generalize hM : (Sum.elim (fun v => ((.inl (some (.int v))), (zH I C Y X.2 D O M ou od j))) (fun E => (.inr E, (zH I C Y X.2 D O M ou od (j + 1)))) X.1 : (Option Value ⊕ String) × px_H) = y
  replace hM := hM.symm
  have hk : pt_mt[319]? = some pt_r319 := rfl
  unfold fX_hoursUntilTear at hx
  refine ev_ls (L' := [some (.ref 0), some (.int a1), none, none]) (st' := [.ref 0]) (pc' := 1) hk (.aload_n 0) 1 rfl rfl rfl rfl ?_
  refine ev_ls (L' := [some (.ref 0), some (.int a1), none, none]) (st' := [.int a1, .ref 0]) (pc' := 2) hk (.iload_n 1) 1 rfl rfl rfl rfl ?_
  rcases bnx_some hx with ⟨⟨⟩, hc5, hx⟩ | ⟨E6, hc5, hx⟩
  · skip
    refine ev_cv 341 1 [] 5 hk rfl rfl rfl rfl lk_dh rfl rfl rfl (rX_needGore hc5) rfl rfl rfl rfl ?_
    refine ev_ls (L' := [some (.ref 0), some (.int a1), none, none]) (st' := [.ref 0]) (pc' := 6) hk (.aload_n 0) 1 rfl rfl rfl rfl ?_
    refine ev_gf (.ref 10) 9 hk rfl rfl lk_dh rfl rfl ?_
    refine ev_gf (.ref (10 + 1)) 12 hk rfl rfl (lk_globe isG_10 rfl) rfl rfl ?_
    refine ev_ls (L' := [some (.ref 0), some (.int a1), none, none]) (st' := [.int a1, .ref (10 + 1)]) (pc' := 13) hk (.iload_n 1) 1 rfl rfl rfl rfl ?_
    obtain ⟨v8, hc9, hx⟩ := bnd_some hx
    refine ev_cv 11 1 [.int (b2i v8)] 16 hk rfl rfl rfl rfl (lk_cloth isG_10 rfl) rfl rfl rfl (ev_gs2 (rC_isTorn isG_10 hc9)) rfl rfl rfl rfl ?_
    refine ev_d1 21 19 hk rfl rfl rfl rfl (px_beq hx (fun hc hx => ?_) (fun hc hx => ?_))
    · refine ev_ls (L' := [some (.ref 0), some (.int a1), none, none]) (st' := [.ref 0]) (pc' := 22) hk (.aload_n 0) 1 rfl rfl rfl rfl ?_
      refine ev_gf (.ref 36) 25 hk rfl rfl lk_dh rfl rfl ?_
      refine ev_gf (.ref (36 + 1)) 28 hk rfl rfl (lk_globe isG_36 rfl) rfl rfl ?_
      refine ev_ls (L' := [some (.ref 0), some (.int a1), some (.ref (36 + 1)), none]) (st' := []) (pc' := 29) hk (.astore_n 2) 1 rfl rfl rfl rfl ?_
      refine ev_ls (L' := [some (.ref 0), some (.int a1), some (.ref (36 + 1)), none]) (st' := [.ref (36 + 1)]) (pc' := 30) hk (.aload_n 2) 1 rfl rfl rfl rfl ?_
      refine ev_ls (L' := [some (.ref 0), some (.int a1), some (.ref (36 + 1)), none]) (st' := [.ref 0, .ref (36 + 1)]) (pc' := 31) hk (.aload_n 0) 1 rfl rfl rfl rfl ?_
      refine ev_gf (.ref 10) 34 hk rfl rfl lk_dh rfl rfl ?_
      refine ev_gf (.ref (10 + 1)) 37 hk rfl rfl (lk_globe isG_10 rfl) rfl rfl ?_
      obtain ⟨G10, hc11, hx⟩ := bnd_some hx
      refine ev_cv 6 1 [] 40 hk rfl rfl rfl rfl (lk_cloth isG_36 rfl) rfl rfl rfl (ev_gs (rC_copyFrom isG_36 isG_10 (by decide) rfl hc11)) rfl rfl rfl rfl ?_
      refine ev_op (st' := [.int 1]) (pc' := 41) hk (.iconst 1) 1 rfl rfl rfl ?_
      refine ev_ls (L' := [some (.ref 0), some (.int a1), some (.ref (36 + 1)), some (.int 1)]) (st' := []) (pc' := 42) hk (.istore_n 3) 1 rfl rfl rfl rfl ?_
      exact ev_iter (qX_hoursUntilTear_42 S xs I C Y D O M ou od j a1 _) (fun X : (Int32 ⊕ String) × (Nat → zG) => y = (Sum.elim (fun v => ((.inl (some (.int v))), (zH I C Y X.2 D O M ou od j))) (fun E => (.inr E, (zH I C Y X.2 D O M ou od (j + 1)))) X.1 : (Option Value ⊕ String) × px_H)) (fun s x hb hM => rX_hoursUntilTear_b42 hb hM) fu _ _ hx hM 
    · refine ev_op (st' := [.int 0]) (pc' := 20) hk (.iconst 0) 1 rfl rfl rfl ?_
      cases hx
      obtain rfl := hM
      exact ev_retI hk rfl rfl
  · skip
    cases hx
    obtain rfl := hM
    exact ev_cvX 341 1 hk rfl rfl rfl rfl lk_dh rfl rfl rfl rfl (rX_needGore hc5) rfl rfl

/-! THE ROWS of the methods: each function is what the pure machine does (3) -/
set_option maxRecDepth 4000 in
theorem rM_step_j22 {S : Nat} {xs : Nat → Int32} {I : zI} {C : zC} {Y : Nat → Int32} {Γ : Nat → zG} {D : zD} {O : Nat → Int32} {M : zM} {ou : Nat → Int64} {od : Nat → UInt64} {j : Nat} {a1 : Int32} {a2 : Int32} {y : (Option Value ⊕ String) × px_H} {x : Int32 × zM}  (hx : fM_step_j22 M a1 a2 = some x) (hM : (fun X : Int32 × zM => y = (((.inl (some (.int X.1))), (zH I C Y Γ D O X.2 ou od j)) : (Option Value ⊕ String) × px_H)) x)  : Ev S xs 171 22 [some (.ref 247), some (.int a1), some (.int a2), none] [] (zH I C Y Γ D O M ou od j) y := by
  have hk : pt_mt[171]? = some pt_r171 := rfl
  unfold fM_step_j22 at hx
  refine ev_op (st' := [.int 0]) (pc' := 23) hk (.iconst 0) 1 rfl rfl rfl ?_
  exact rM_step_j23 hx hM 
set_option maxRecDepth 2000 in
theorem rM_step {S : Nat} {xs : Nat → Int32} {I : zI} {C : zC} {Y : Nat → Int32} {Γ : Nat → zG} {D : zD} {O : Nat → Int32} {M : zM} {ou : Nat → Int64} {od : Nat → UInt64} {j : Nat} {a1 : Int32} {a2 : Int32} {X : Int32 × zM}   (hx : fM_step M a1 a2 = some X) : Ev S xs 171 0 [some (.ref 247), some (.int a1), some (.int a2), none] [] (zH I C Y Γ D O M ou od j) (((.inl (some (.int X.1))), (zH I C Y Γ D O X.2 ou od j)) : (Option Value ⊕ String) × px_H) := by
  generalize hM : (((.inl (some (.int X.1))), (zH I C Y Γ D O X.2 ou od j)) : (Option Value ⊕ String) × px_H) = y
  replace hM := hM.symm
  have hk : pt_mt[171]? = some pt_r171 := rfl
  unfold fM_step at hx
  refine ev_ls (L' := [some (.ref 247), some (.int a1), some (.int a2), none]) (st' := [.ref 247]) (pc' := 1) hk (.aload_n 0) 1 rfl rfl rfl rfl ?_
  refine ev_ls (L' := [some (.ref 247), some (.int a1), some (.int a2), none]) (st' := [.int a1, .ref 247]) (pc' := 2) hk (.iload_n 1) 1 rfl rfl rfl rfl ?_
  refine ev_cv 92 1 [.int (b2i (fM_isSpot M a1))] 5 hk rfl rfl rfl rfl lk_model rfl rfl rfl (rM_isSpot rfl) rfl rfl rfl rfl ?_
  refine ev_d1 22 8 hk rfl rfl rfl rfl (px_beq hx (fun hc hx => ?_) (fun hc hx => ?_))
  · exact rM_step_j22 hx hM 
  · refine ev_ls (L' := [some (.ref 247), some (.int a1), some (.int a2), none]) (st' := [.int a2]) (pc' := 9) hk (.iload_n 2) 1 rfl rfl rfl rfl ?_
    refine ev_op (st' := [.long (Int32.toInt64 a2)]) (pc' := 10) hk (.i2l) 1 rfl rfl rfl ?_
    refine ev_op (st' := [.long 0, .long (Int32.toInt64 a2)]) (pc' := 11) hk (.lconst 0) 1 rfl rfl rfl ?_
    refine ev_op (st' := [.long 1, .long 0, .long (Int32.toInt64 a2)]) (pc' := 12) hk (.lconst 1) 1 rfl rfl rfl ?_
    refine ev_cs 86 3 [.int (b2i (fM_isIn (Int32.toInt64 a2) 0 1))] 15 hk rfl rfl (by decide) rfl rfl rfl (rM_isIn rfl) rfl rfl rfl rfl ?_
    refine ev_d1 22 18 hk rfl rfl rfl rfl (px_beq hx (fun hc hx => ?_) (fun hc hx => ?_))
    · exact rM_step_j22 hx hM 
    · refine ev_op (st' := [.int 1]) (pc' := 19) hk (.iconst 1) 1 rfl rfl rfl ?_
      refine ev_jp (pc' := 23) (st' := [.int 1]) hk (.goto 4) 3 rfl rfl rfl rfl rfl ?_
      exact rM_step_j23 hx hM 
set_option maxRecDepth 2000 in
theorem rC_hasGore {S : Nat} {xs : Nat → Int32} {I : zI} {C : zC} {Y : Nat → Int32} {Γ : Nat → zG} {D : zD} {O : Nat → Int32} {M : zM} {ou : Nat → Int64} {od : Nat → UInt64} {j : Nat} {g : Nat} {G : zG} {a1 : Int32} {X : Bool}  (hg : isG g) (hx : fC_hasGore G a1 = X) : Ev S xs 9 0 [some (.ref (g + 1)), some (.int a1)] [] (zH I C Y (gup Γ g G) D O M ou od j) (((.inl (some (.int (b2i X)))), (zH I C Y (gup Γ g G) D O M ou od j)) : (Option Value ⊕ String) × px_H) := by
  generalize hM : (((.inl (some (.int (b2i X)))), (zH I C Y (gup Γ g G) D O M ou od j)) : (Option Value ⊕ String) × px_H) = y
  replace hM := hM.symm
  have hk : pt_mt[9]? = some pt_r9 := rfl
  unfold fC_hasGore at hx
  refine ev_ls (L' := [some (.ref (g + 1)), some (.int a1)]) (st' := [.int a1]) (pc' := 1) hk (.iload_n 1) 1 rfl rfl rfl rfl ?_
  refine ev_d1 16 4 hk rfl rfl rfl rfl (px_clt hx (fun hc hx => ?_) (fun hc hx => ?_))
  · refine ev_op (st' := [.int 0]) (pc' := 17) hk (.iconst 0) 1 rfl rfl rfl ?_
    cases hx
    obtain rfl := hM
    exact ev_retZ false rfl hk rfl rfl
  · refine ev_ls (L' := [some (.ref (g + 1)), some (.int a1)]) (st' := [.int a1]) (pc' := 5) hk (.iload_n 1) 1 rfl rfl rfl rfl ?_
    refine ev_ls (L' := [some (.ref (g + 1)), some (.int a1)]) (st' := [.ref (g + 1), .int a1]) (pc' := 6) hk (.aload_n 0) 1 rfl rfl rfl rfl ?_
    refine ev_gf (.int (gF G 1 0)) 9 hk rfl rfl (lk_cloth hg gup_same) rfl rfl ?_
    refine ev_d2 16 12 hk rfl rfl rfl rfl (px_cge hx (fun hc hx => ?_) (fun hc hx => ?_))
    · refine ev_op (st' := [.int 0]) (pc' := 17) hk (.iconst 0) 1 rfl rfl rfl ?_
      cases hx
      obtain rfl := hM
      exact ev_retZ false rfl hk rfl rfl
    · refine ev_op (st' := [.int 1]) (pc' := 13) hk (.iconst 1) 1 rfl rfl rfl ?_
      refine ev_jp (pc' := 17) (st' := [.int 1]) hk (.goto 4) 3 rfl rfl rfl rfl rfl ?_
      cases hx
      obtain rfl := hM
      exact ev_retZ true rfl hk rfl rfl
set_option maxRecDepth 2000 in
theorem rG_ripRefusal {S : Nat} {xs : Nat → Int32} {I : zI} {C : zC} {Y : Nat → Int32} {Γ : Nat → zG} {D : zD} {O : Nat → Int32} {M : zM} {ou : Nat → Int64} {od : Nat → UInt64} {j : Nat} {g : Nat} {G : zG} {a1 : Int32} {X : Int32}  (hg : isG g) (hx : fG_ripRefusal G a1 = some X) : Ev S xs 244 0 [some (.ref g), some (.int a1)] [] (zH I C Y (gup Γ g G) D O M ou od j) (((.inl (some (.int X))), (zH I C Y (gup Γ g G) D O M ou od j)) : (Option Value ⊕ String) × px_H) := by
  generalize hM : (((.inl (some (.int X))), (zH I C Y (gup Γ g G) D O M ou od j)) : (Option Value ⊕ String) × px_H) = y
  replace hM := hM.symm
  have hk : pt_mt[244]? = some pt_r244 := rfl
  unfold fG_ripRefusal at hx
  refine ev_ls (L' := [some (.ref g), some (.int a1)]) (st' := [.ref g]) (pc' := 1) hk (.aload_n 0) 1 rfl rfl rfl rfl ?_
  refine ev_gf (.ref (g + 1)) 4 hk rfl rfl (lk_globe hg gup_same) rfl rfl ?_
  refine ev_ls (L' := [some (.ref g), some (.int a1)]) (st' := [.int a1, .ref (g + 1)]) (pc' := 5) hk (.iload_n 1) 1 rfl rfl rfl rfl ?_
  refine ev_cv 9 1 [.int (b2i (fC_hasGore G a1))] 8 hk rfl rfl rfl rfl (lk_cloth hg gup_same) rfl rfl rfl (rC_hasGore hg rfl) rfl rfl rfl rfl ?_
  refine ev_d1 13 11 hk rfl rfl rfl rfl (px_bne hx (fun hc hx => ?_) (fun hc hx => ?_))
  · refine ev_ls (L' := [some (.ref g), some (.int a1)]) (st' := [.ref g]) (pc' := 14) hk (.aload_n 0) 1 rfl rfl rfl rfl ?_
    refine ev_gf (.ref (g + 1)) 17 hk rfl rfl (lk_globe hg gup_same) rfl rfl ?_
    refine ev_ls (L' := [some (.ref g), some (.int a1)]) (st' := [.int a1, .ref (g + 1)]) (pc' := 18) hk (.iload_n 1) 1 rfl rfl rfl rfl ?_
    obtain ⟨v1, hc2, hx⟩ := bnd_some hx
    refine ev_cv 11 1 [.int (b2i v1)] 21 hk rfl rfl rfl rfl (lk_cloth hg gup_same) rfl rfl rfl (rC_isTorn hg hc2) rfl rfl rfl rfl ?_
    refine ev_d1 28 24 hk rfl rfl rfl rfl (px_beq hx (fun hc hx => ?_) (fun hc hx => ?_))
    · refine ev_op (st' := [.int 0]) (pc' := 29) hk (.iconst 0) 1 rfl rfl rfl ?_
      cases hx
      obtain rfl := hM
      exact ev_retI hk rfl rfl
    · refine ev_op (st' := [.int 3]) (pc' := 25) hk (.iconst 3) 1 rfl rfl rfl ?_
      refine ev_jp (pc' := 29) (st' := [.int 3]) hk (.goto 4) 3 rfl rfl rfl rfl rfl ?_
      cases hx
      obtain rfl := hM
      exact ev_retI hk rfl rfl
  · refine ev_op (st' := [.int 1]) (pc' := 12) hk (.iconst 1) 1 rfl rfl rfl ?_
    cases hx
    obtain rfl := hM
    exact ev_retI hk rfl rfl
set_option maxRecDepth 2000 in
theorem rG_openSeam {S : Nat} {xs : Nat → Int32} {I : zI} {C : zC} {Y : Nat → Int32} {Γ : Nat → zG} {D : zD} {O : Nat → Int32} {M : zM} {ou : Nat → Int64} {od : Nat → UInt64} {j : Nat} {g : Nat} {G : zG} {a1 : Int32} {X : Int32 × zG}  (hg : isG g) (hx : fG_openSeam G a1 = some X) : Ev S xs 241 0 [some (.ref g), some (.int a1)] [] (zH I C Y (gup Γ g G) D O M ou od j) (((.inl (some (.int X.1))), (zH I C Y (gup Γ g X.2) D O M ou od j)) : (Option Value ⊕ String) × px_H) := by
  generalize hM : (((.inl (some (.int X.1))), (zH I C Y (gup Γ g X.2) D O M ou od j)) : (Option Value ⊕ String) × px_H) = y
  replace hM := hM.symm
  have hk : pt_mt[241]? = some pt_r241 := rfl
  unfold fG_openSeam at hx
  refine ev_ls (L' := [some (.ref g), some (.int a1)]) (st' := [.ref g]) (pc' := 1) hk (.aload_n 0) 1 rfl rfl rfl rfl ?_
  refine ev_op (st' := [.ref g, .ref g]) (pc' := 2) hk (.dup) 1 rfl rfl rfl ?_
  refine ev_gf (.int (gF G 0 3)) 5 hk rfl rfl (lk_globe hg gup_same) rfl rfl ?_
  refine ev_ls (L' := [some (.ref g), some (.int a1)]) (st' := [.ref g, .int (gF G 0 3), .ref g]) (pc' := 6) hk (.aload_n 0) 1 rfl rfl rfl rfl ?_
  refine ev_gf (.ref (g + 1)) 9 hk rfl rfl (lk_globe hg gup_same) rfl rfl ?_
  refine ev_gf (.ref (g + 4)) 12 hk rfl rfl (lk_cloth hg gup_same) rfl rfl ?_
  refine ev_ls (L' := [some (.ref g), some (.int a1)]) (st' := [.int a1, .ref (g + 4), .int (gF G 0 3), .ref g]) (pc' := 13) hk (.iload_n 1) 1 rfl rfl rfl rfl ?_
  obtain ⟨v6, hv6, hx⟩ := bnd_some hx
  refine ev_ial hv6 14 hk rfl (lk_a4 hg gup_same) rfl ?_
  refine ev_op (st' := [.int 2, .int v6, .int (gF G 0 3), .ref g]) (pc' := 15) hk (.iconst 2) 1 rfl rfl rfl ?_
  refine ev_div 16 hk rfl (by decide) rfl ?_
  refine ev_op (st' := [.int ((gF G 0 3) + (v6 / 2)), .ref g]) (pc' := 17) hk (.iadd) 1 rfl rfl rfl ?_
  obtain ⟨G7, hG7, hx⟩ := bnd_some hx
  have hG7 := Option.some.inj hG7
  refine ev_pf 20 hk rfl rfl (lk_globe hg gup_same) rfl rfl rfl (sf_1_3 hg  gup_same hG7 gup_gup) rfl ?_
  refine ev_ls (L' := [some (.ref g), some (.int a1)]) (st' := [.ref g]) (pc' := 21) hk (.aload_n 0) 1 rfl rfl rfl rfl ?_
  refine ev_gf (.ref (g + 1)) 24 hk rfl rfl (lk_globe hg gup_same) rfl rfl ?_
  refine ev_gf (.ref (g + 4)) 27 hk rfl rfl (lk_cloth hg gup_same) rfl rfl ?_
  refine ev_ls (L' := [some (.ref g), some (.int a1)]) (st' := [.int a1, .ref (g + 4)]) (pc' := 28) hk (.iload_n 1) 1 rfl rfl rfl rfl ?_
  refine ev_op (st' := [.int 0, .int a1, .ref (g + 4)]) (pc' := 29) hk (.iconst 0) 1 rfl rfl rfl ?_
  obtain ⟨A8, hA8, hx⟩ := bnd_some hx
  obtain ⟨G9, hG9, hx⟩ := bnd_some hx
  have hG9 := Option.some.inj hG9
  refine ev_ias hA8 30 hk rfl (lk_a4 hg gup_same) (sa_g4 hg gup_same hG9 gup_gup) rfl ?_
  refine ev_ls (L' := [some (.ref g), some (.int a1)]) (st' := [.ref g]) (pc' := 31) hk (.aload_n 0) 1 rfl rfl rfl rfl ?_
  refine ev_ls (L' := [some (.ref g), some (.int a1)]) (st' := [.ref g, .ref g]) (pc' := 32) hk (.aload_n 0) 1 rfl rfl rfl rfl ?_
  refine ev_gf (.ref (g + 1)) 35 hk rfl rfl (lk_globe hg gup_same) rfl rfl ?_
  refine ev_gf (.ref (g + 3)) 38 hk rfl rfl (lk_cloth hg gup_same) rfl rfl ?_
  refine ev_ls (L' := [some (.ref g), some (.int a1)]) (st' := [.int a1, .ref (g + 3), .ref g]) (pc' := 39) hk (.iload_n 1) 1 rfl rfl rfl rfl ?_
  obtain ⟨v10, hv10, hx⟩ := bnd_some hx
  refine ev_ial hv10 40 hk rfl (lk_a3 hg gup_same) rfl ?_
  obtain ⟨v12, G11, hc13, hx⟩ := bnd2_some hx
  refine ev_cv 253 1 [.int v12] 43 hk rfl rfl rfl rfl (lk_globe hg gup_same) rfl rfl rfl (rG_tearLabels hg hc13) rfl rfl rfl rfl ?_
  cases hx
  obtain rfl := hM
  exact ev_retI hk rfl rfl
set_option maxRecDepth 2000 in
theorem rX_rip {S : Nat} {xs : Nat → Int32} {I : zI} {C : zC} {Y : Nat → Int32} {Γ : Nat → zG} {D : zD} {O : Nat → Int32} {M : zM} {ou : Nat → Int64} {od : Nat → UInt64} {j : Nat} {a1 : Int32} {X : (Int32 ⊕ String) × (Nat → Int32) × (Nat → zG)}   (hx : fX_rip Y Γ a1 = some X) : Ev S xs 352 0 [some (.ref 0), some (.int a1)] [] (zH I C Y Γ D O M ou od j) (Sum.elim (fun v => ((.inl (some (.int v))), (zH I C X.2.1 X.2.2 D O M ou od j))) (fun E => (.inr E, (zH I C X.2.1 X.2.2 D O M ou od (j + 1)))) X.1 : (Option Value ⊕ String) × px_H) := by
  generalize hM : (Sum.elim (fun v => ((.inl (some (.int v))), (zH I C X.2.1 X.2.2 D O M ou od j))) (fun E => (.inr E, (zH I C X.2.1 X.2.2 D O M ou od (j + 1)))) X.1 : (Option Value ⊕ String) × px_H) = y
  replace hM := hM.symm
  have hk : pt_mt[352]? = some pt_r352 := rfl
  unfold fX_rip at hx
  refine ev_ls (L' := [some (.ref 0), some (.int a1)]) (st' := [.ref 0]) (pc' := 1) hk (.aload_n 0) 1 rfl rfl rfl rfl ?_
  refine ev_gf (.ref 10) 4 hk rfl rfl lk_dh rfl rfl ?_
  refine ev_ls (L' := [some (.ref 0), some (.int a1)]) (st' := [.int a1, .ref 10]) (pc' := 5) hk (.iload_n 1) 1 rfl rfl rfl rfl ?_
  obtain ⟨v1, hc2, hx⟩ := bnd_some hx
  refine ev_cv 244 1 [.int v1] 8 hk rfl rfl rfl rfl (lk_globe isG_10 rfl) rfl rfl rfl (ev_gs2 (rG_ripRefusal isG_10 hc2)) rfl rfl rfl rfl ?_
  rcases bnx_some hx with ⟨⟨⟩, hc3, hx⟩ | ⟨E4, hc3, hx⟩
  · skip
    refine ev_cs 350 1 [] 11 hk rfl rfl (by decide) rfl rfl rfl (rX_refuse hc3) rfl rfl rfl rfl ?_
    refine ev_ls (L' := [some (.ref 0), some (.int a1)]) (st' := [.ref 0]) (pc' := 12) hk (.aload_n 0) 1 rfl rfl rfl rfl ?_
    refine ev_gf (.ref 88) 15 hk rfl rfl lk_dh rfl rfl ?_
    refine ev_ls (L' := [some (.ref 0), some (.int a1)]) (st' := [.ref 0, .ref 88]) (pc' := 16) hk (.aload_n 0) 1 rfl rfl rfl rfl ?_
    refine ev_gf (.ref 10) 19 hk rfl rfl lk_dh rfl rfl ?_
    obtain ⟨Y6, Γ7, hc8, hx⟩ := bnd2_some hx
    refine ev_cv 261 1 [] 22 hk rfl rfl rfl rfl lk_hist rfl rfl rfl (rY_remember isG_10 (by decide) hc8) rfl rfl rfl rfl ?_
    refine ev_ls (L' := [some (.ref 0), some (.int a1)]) (st' := [.ref 0]) (pc' := 23) hk (.aload_n 0) 1 rfl rfl rfl rfl ?_
    refine ev_gf (.ref 10) 26 hk rfl rfl lk_dh rfl rfl ?_
    refine ev_ls (L' := [some (.ref 0), some (.int a1)]) (st' := [.int a1, .ref 10]) (pc' := 27) hk (.iload_n 1) 1 rfl rfl rfl rfl ?_
    obtain ⟨v10, G9, hc11, hx⟩ := bnd2_some hx
    refine ev_cv 241 1 [.int v10] 30 hk rfl rfl rfl rfl (lk_globe isG_10 rfl) rfl rfl rfl (ev_gs (rG_openSeam isG_10 hc11)) rfl rfl rfl rfl ?_
    cases hx
    obtain rfl := hM
    exact ev_retI hk rfl rfl
  · skip
    cases hx
    obtain rfl := hM
    exact ev_csX 350 1 hk rfl rfl (by decide) rfl rfl rfl rfl (rX_refuse hc3) rfl rfl
set_option maxRecDepth 2000 in
theorem rw_rip {S : Nat} {xs : Nat → Int32} {I : zI} {C : zC} {Y : Nat → Int32} {Γ : Nat → zG} {D : zD} {O : Nat → Int32} {M : zM} {ou : Nat → Int64} {od : Nat → UInt64} {j : Nat} {a1 : Int32} {X : Int32 × (Nat → Int32) × (Nat → zG) × (Nat → Int64) × Nat}   (hx : fw_rip Y Γ ou j a1 = some X) : Ev S xs 401 0 [some (.ref 0), some (.int a1), some (.ref 261), none] [] (zH I C Y Γ D O M ou od j) (((.inl (some (.int X.1))), (zH I C X.2.1 X.2.2.1 D O M X.2.2.2.1 od X.2.2.2.2)) : (Option Value ⊕ String) × px_H) := by
  generalize hM : (((.inl (some (.int X.1))), (zH I C X.2.1 X.2.2.1 D O M X.2.2.2.1 od X.2.2.2.2)) : (Option Value ⊕ String) × px_H) = y
  replace hM := hM.symm
  have hk : pt_mt[401]? = some pt_r401 := rfl
  unfold fw_rip at hx
  refine ev_ls (L' := [some (.ref 0), some (.int a1), some (.ref 261), none]) (st' := [.ref 261]) (pc' := 1) hk (.aload_n 2) 1 rfl rfl rfl rfl ?_
  refine ev_op (st' := [.int 0, .ref 261]) (pc' := 2) hk (.iconst 0) 1 rfl rfl rfl ?_
  refine ev_ls (L' := [some (.ref 0), some (.int a1), some (.ref 261), none]) (st' := [.ref 0, .int 0, .ref 261]) (pc' := 3) hk (.aload_n 0) 1 rfl rfl rfl rfl ?_
  refine ev_ls (L' := [some (.ref 0), some (.int a1), some (.ref 261), none]) (st' := [.int a1, .ref 0, .int 0, .ref 261]) (pc' := 4) hk (.iload_n 1) 1 rfl rfl rfl rfl ?_
  obtain ⟨r8, Y2, Γ3, hc4, hx⟩ := bnd3_some hx
  rcases r8 with v6 | E5
  · simp only [Sum.elim_inl] at hx
    refine ev_cv 352 1 [.int v6, .int 0, .ref 261] 7 hk rfl rfl rfl rfl lk_dh rfl rfl rfl (rX_rip hc4) rfl rfl rfl rfl ?_
    refine ev_op (st' := [.long (Int32.toInt64 v6), .int 0, .ref 261]) (pc' := 8) hk (.i2l) 1 rfl rfl rfl ?_
    obtain ⟨ou7, hou7, hx⟩ := bnd_some hx
    have hou7 := Option.some.inj hou7
    refine ev_las (A := (vp_updL ou 0 (Int32.toInt64 v6))) rfl 9 hk rfl lk_ou (sa_ou hou7) rfl ?_
    refine ev_jp (pc' := 18) (st' := []) hk (.goto 9) 3 rfl rfl rfl rfl rfl ?_
    refine ev_op (st' := [.int 0]) (pc' := 19) hk (.iconst 0) 1 rfl rfl rfl ?_
    cases hx
    obtain rfl := hM
    exact ev_retI hk rfl rfl
  · simp only [Sum.elim_inr] at hx
    rcases ite_or hx with ⟨hE, hx⟩ | ⟨hE, hx⟩
    · subst hE
      refine ev_cvC 352 1 13 hk rfl rfl rfl rfl lk_dh rfl rfl rfl (t := 12) (by decide +kernel) (L' := [some (.ref 0), some (.int a1), some (.ref 261), none]) rfl (rX_rip hc4) rfl rfl ?_
      refine ev_op (st' := [.int 1]) (pc' := 14) hk (.iconst 1) 1 rfl rfl rfl ?_
      cases hx
      obtain rfl := hM
      exact ev_retI hk rfl rfl
    rcases ite_or hx with ⟨hE, hx⟩ | ⟨hE, hx⟩
    · subst hE
      refine ev_cvC 352 1 16 hk rfl rfl rfl rfl lk_dh rfl rfl rfl (t := 15) (by decide +kernel) (L' := [some (.ref 0), some (.int a1), some (.ref 261), none]) rfl (rX_rip hc4) rfl rfl ?_
      refine ev_op (st' := [.int 2]) (pc' := 17) hk (.iconst 2) 1 rfl rfl rfl ?_
      cases hx
      obtain rfl := hM
      exact ev_retI hk rfl rfl
    cases hx
set_option maxRecDepth 2000 in
theorem rM_isGore {S : Nat} {xs : Nat → Int32} {I : zI} {C : zC} {Y : Nat → Int32} {Γ : Nat → zG} {D : zD} {O : Nat → Int32} {M : zM} {ou : Nat → Int64} {od : Nat → UInt64} {j : Nat} {a1 : Int32} {X : Bool}   (hx : fM_isGore M a1 = X) : Ev S xs 85 0 [some (.ref 247), some (.int a1)] [] (zH I C Y Γ D O M ou od j) (((.inl (some (.int (b2i X)))), (zH I C Y Γ D O M ou od j)) : (Option Value ⊕ String) × px_H) := by
  generalize hM : (((.inl (some (.int (b2i X)))), (zH I C Y Γ D O M ou od j)) : (Option Value ⊕ String) × px_H) = y
  replace hM := hM.symm
  have hk : pt_mt[85]? = some pt_r85 := rfl
  unfold fM_isGore at hx
  refine ev_ls (L' := [some (.ref 247), some (.int a1)]) (st' := [.int a1]) (pc' := 1) hk (.iload_n 1) 1 rfl rfl rfl rfl ?_
  refine ev_op (st' := [.long (Int32.toInt64 a1)]) (pc' := 2) hk (.i2l) 1 rfl rfl rfl ?_
  refine ev_op (st' := [.long 0, .long (Int32.toInt64 a1)]) (pc' := 3) hk (.lconst 0) 1 rfl rfl rfl ?_
  refine ev_ls (L' := [some (.ref 247), some (.int a1)]) (st' := [.ref 247, .long 0, .long (Int32.toInt64 a1)]) (pc' := 4) hk (.aload_n 0) 1 rfl rfl rfl rfl ?_
  refine ev_gf (.ref 249) 7 hk rfl rfl lk_model rfl rfl ?_
  refine ev_op (st' := [.int 0, .ref 249, .long 0, .long (Int32.toInt64 a1)]) (pc' := 8) hk (.iconst 0) 1 rfl rfl rfl ?_
  refine ev_ial (v := ((mA M 249) 0)) rfl 9 hk rfl lk_m249 rfl ?_
  refine ev_op (st' := [.int 1, .int ((mA M 249) 0), .long 0, .long (Int32.toInt64 a1)]) (pc' := 10) hk (.iconst 1) 1 rfl rfl rfl ?_
  refine ev_op (st' := [.int (((mA M 249) 0) - 1), .long 0, .long (Int32.toInt64 a1)]) (pc' := 11) hk (.isub) 1 rfl rfl rfl ?_
  refine ev_op (st' := [.long (Int32.toInt64 (((mA M 249) 0) - 1)), .long 0, .long (Int32.toInt64 a1)]) (pc' := 12) hk (.i2l) 1 rfl rfl rfl ?_
  refine ev_cs 86 3 [.int (b2i (fM_isIn (Int32.toInt64 a1) 0 (Int32.toInt64 (((mA M 249) 0) - 1))))] 15 hk rfl rfl (by decide) rfl rfl rfl (rM_isIn rfl) rfl rfl rfl rfl ?_
  cases hx
  obtain rfl := hM
  exact ev_retZ _ rfl hk rfl rfl
set_option maxRecDepth 2000 in
theorem rM_mayRip {S : Nat} {xs : Nat → Int32} {I : zI} {C : zC} {Y : Nat → Int32} {Γ : Nat → zG} {D : zD} {O : Nat → Int32} {M : zM} {ou : Nat → Int64} {od : Nat → UInt64} {j : Nat} {a1 : Int32} {X : Bool}   (hx : fM_mayRip M a1 = some X) : Ev S xs 131 0 [some (.ref 247), some (.int a1)] [] (zH I C Y Γ D O M ou od j) (((.inl (some (.int (b2i X)))), (zH I C Y Γ D O M ou od j)) : (Option Value ⊕ String) × px_H) := by
  generalize hM : (((.inl (some (.int (b2i X)))), (zH I C Y Γ D O M ou od j)) : (Option Value ⊕ String) × px_H) = y
  replace hM := hM.symm
  have hk : pt_mt[131]? = some pt_r131 := rfl
  unfold fM_mayRip at hx
  refine ev_ls (L' := [some (.ref 247), some (.int a1)]) (st' := [.ref 247]) (pc' := 1) hk (.aload_n 0) 1 rfl rfl rfl rfl ?_
  refine ev_ls (L' := [some (.ref 247), some (.int a1)]) (st' := [.int a1, .ref 247]) (pc' := 2) hk (.iload_n 1) 1 rfl rfl rfl rfl ?_
  refine ev_cv 85 1 [.int (b2i (fM_isGore M a1))] 5 hk rfl rfl rfl rfl lk_model rfl rfl rfl (rM_isGore rfl) rfl rfl rfl rfl ?_
  refine ev_d1 20 8 hk rfl rfl rfl rfl (px_beq hx (fun hc hx => ?_) (fun hc hx => ?_))
  · refine ev_op (st' := [.int 0]) (pc' := 21) hk (.iconst 0) 1 rfl rfl rfl ?_
    cases hx
    obtain rfl := hM
    exact ev_retZ false rfl hk rfl rfl
  · refine ev_ls (L' := [some (.ref 247), some (.int a1)]) (st' := [.ref 247]) (pc' := 9) hk (.aload_n 0) 1 rfl rfl rfl rfl ?_
    refine ev_ls (L' := [some (.ref 247), some (.int a1)]) (st' := [.int a1, .ref 247]) (pc' := 10) hk (.iload_n 1) 1 rfl rfl rfl rfl ?_
    obtain ⟨v1, hc2, hx⟩ := bnd_some hx
    refine ev_cv 98 1 [.int (b2i v1)] 13 hk rfl rfl rfl rfl lk_model rfl rfl rfl (rM_isTornSeam hc2) rfl rfl rfl rfl ?_
    refine ev_d1 20 16 hk rfl rfl rfl rfl (px_bne hx (fun hc hx => ?_) (fun hc hx => ?_))
    · refine ev_op (st' := [.int 0]) (pc' := 21) hk (.iconst 0) 1 rfl rfl rfl ?_
      cases hx
      obtain rfl := hM
      exact ev_retZ false rfl hk rfl rfl
    · refine ev_op (st' := [.int 1]) (pc' := 17) hk (.iconst 1) 1 rfl rfl rfl ?_
      refine ev_jp (pc' := 21) (st' := [.int 1]) hk (.goto 4) 3 rfl rfl rfl rfl rfl ?_
      cases hx
      obtain rfl := hM
      exact ev_retZ true rfl hk rfl rfl
set_option maxRecDepth 4000 in
theorem rM_goesBoth_j18 {S : Nat} {xs : Nat → Int32} {I : zI} {C : zC} {Y : Nat → Int32} {Γ : Nat → zG} {D : zD} {O : Nat → Int32} {M : zM} {ou : Nat → Int64} {od : Nat → UInt64} {j : Nat} {a0t : Int32} {y : (Option Value ⊕ String) × px_H} {x : Bool × zM}  (hx : fM_goesBoth_j18 M a0t = some x) (hM : (fun X : Bool × zM => y = (((.inl (some (.int (b2i X.1)))), (zH I C Y Γ D O X.2 ou od j)) : (Option Value ⊕ String) × px_H)) x) (u1 : Option Value) (hu1 : px_cz u1 = true) (u2 : Option Value) (hu2 : px_cz u2 = true) : Ev S xs 61 18 [some (.ref 247), u1, u2] [.int a0t, .ref 247] (zH I C Y Γ D O M ou od j) y := by
  have hk : pt_mt[61]? = some pt_r61 := rfl
  unfold fM_goesBoth_j18 at hx
  obtain ⟨M3, hM3, hx⟩ := bnd_some hx
  have hM3 := Option.some.inj hM3
  refine ev_pf 21 hk rfl rfl lk_model rfl rfl rfl (sf_8_0 hM3) rfl ?_
  refine ev_ls (L' := [some (.ref 247), u1, u2]) (st' := [.ref 247]) (pc' := 22) hk (.aload_n 0) 1 rfl rfl rfl rfl ?_
  refine ev_gf (.int (mF M3 0)) 25 hk rfl rfl lk_model rfl rfl ?_
  refine ev_d1 32 28 hk rfl rfl rfl rfl (px_cne hx (fun hc hx => ?_) (fun hc hx => ?_))
  · refine ev_op (st' := [.int 0]) (pc' := 33) hk (.iconst 0) 1 rfl rfl rfl ?_
    cases hx
    obtain rfl := hM
    exact ev_retZ false rfl hk rfl rfl
  · refine ev_op (st' := [.int 1]) (pc' := 29) hk (.iconst 1) 1 rfl rfl rfl ?_
    refine ev_jp (pc' := 33) (st' := [.int 1]) hk (.goto 4) 3 rfl rfl rfl rfl rfl ?_
    cases hx
    obtain rfl := hM
    exact ev_retZ true rfl hk rfl rfl
set_option maxRecDepth 2000 in
theorem rM_goesBoth {S : Nat} {xs : Nat → Int32} {I : zI} {C : zC} {Y : Nat → Int32} {Γ : Nat → zG} {D : zD} {O : Nat → Int32} {M : zM} {ou : Nat → Int64} {od : Nat → UInt64} {j : Nat} {a1 : Bool} {a2 : Bool} {X : Bool × zM}   (hx : fM_goesBoth M a1 a2 = some X) : Ev S xs 61 0 [some (.ref 247), some (.int (b2i a1)), some (.int (b2i a2))] [] (zH I C Y Γ D O M ou od j) (((.inl (some (.int (b2i X.1)))), (zH I C Y Γ D O X.2 ou od j)) : (Option Value ⊕ String) × px_H) := by
  generalize hM : (((.inl (some (.int (b2i X.1)))), (zH I C Y Γ D O X.2 ou od j)) : (Option Value ⊕ String) × px_H) = y
  replace hM := hM.symm
  have hk : pt_mt[61]? = some pt_r61 := rfl
  unfold fM_goesBoth at hx
  refine ev_ls (L' := [some (.ref 247), some (.int (b2i a1)), some (.int (b2i a2))]) (st' := [.ref 247]) (pc' := 1) hk (.aload_n 0) 1 rfl rfl rfl rfl ?_
  refine ev_ls (L' := [some (.ref 247), some (.int (b2i a1)), some (.int (b2i a2))]) (st' := [.int (b2i a1), .ref 247]) (pc' := 2) hk (.iload_n 1) 1 rfl rfl rfl rfl ?_
  refine ev_d1 9 5 hk rfl rfl rfl rfl (px_bne hx (fun hc hx => ?_) (fun hc hx => ?_))
  · refine ev_ls (L' := [some (.ref 247), some (.int (b2i a1)), some (.int (b2i a2))]) (st' := [.int (b2i a2), .ref 247]) (pc' := 10) hk (.iload_n 2) 1 rfl rfl rfl rfl ?_
    refine ev_d1 17 13 hk rfl rfl rfl rfl (px_bne hx (fun hc hx => ?_) (fun hc hx => ?_))
    · refine ev_op (st' := [.int 0, .ref 247]) (pc' := 18) hk (.iconst 0) 1 rfl rfl rfl ?_
      exact rM_goesBoth_j18 hx hM (some (.int (b2i a1))) rfl (some (.int (b2i a2))) rfl
    · refine ev_op (st' := [.int 2, .ref 247]) (pc' := 14) hk (.iconst 2) 1 rfl rfl rfl ?_
      refine ev_jp (pc' := 18) (st' := [.int 2, .ref 247]) hk (.goto 4) 3 rfl rfl rfl rfl rfl ?_
      exact rM_goesBoth_j18 hx hM (some (.int (b2i a1))) rfl (some (.int (b2i a2))) rfl
  · refine ev_op (st' := [.int 1, .ref 247]) (pc' := 6) hk (.iconst 1) 1 rfl rfl rfl ?_
    refine ev_jp (pc' := 18) (st' := [.int 1, .ref 247]) hk (.goto 12) 3 rfl rfl rfl rfl rfl ?_
    exact rM_goesBoth_j18 hx hM (some (.int (b2i a1))) rfl (some (.int (b2i a2))) rfl
set_option maxRecDepth 2000 in
theorem rM_rips {S : Nat} {xs : Nat → Int32} {I : zI} {C : zC} {Y : Nat → Int32} {Γ : Nat → zG} {D : zD} {O : Nat → Int32} {M : zM} {ou : Nat → Int64} {od : Nat → UInt64} {j : Nat} {a1 : Int32} {X : Int32 × zM}   (hx : fM_rips M a1 = some X) : Ev S xs 158 0 [some (.ref 247), some (.int a1)] [] (zH I C Y Γ D O M ou od j) (((.inl (some (.int X.1))), (zH I C Y Γ D O X.2 ou od j)) : (Option Value ⊕ String) × px_H) := by
  generalize hM : (((.inl (some (.int X.1))), (zH I C Y Γ D O X.2 ou od j)) : (Option Value ⊕ String) × px_H) = y
  replace hM := hM.symm
  have hk : pt_mt[158]? = some pt_r158 := rfl
  unfold fM_rips at hx
  refine ev_ls (L' := [some (.ref 247), some (.int a1)]) (st' := [.ref 247]) (pc' := 1) hk (.aload_n 0) 1 rfl rfl rfl rfl ?_
  refine ev_gf (.ref 249) 4 hk rfl rfl lk_model rfl rfl ?_
  refine ev_op (st' := [.int 3, .ref 249]) (pc' := 5) hk (.iconst 3) 1 rfl rfl rfl ?_
  refine ev_op (st' := [.int 3, .ref 249, .int 3, .ref 249]) (pc' := 6) hk (.dup2) 1 rfl rfl rfl ?_
  refine ev_ial (v := ((mA M 249) 3)) rfl 7 hk rfl lk_m249 rfl ?_
  refine ev_ls (L' := [some (.ref 247), some (.int a1)]) (st' := [.ref 247, .int ((mA M 249) 3), .int 3, .ref 249]) (pc' := 8) hk (.aload_n 0) 1 rfl rfl rfl rfl ?_
  refine ev_gf (.ref 249) 11 hk rfl rfl lk_model rfl rfl ?_
  refine ev_op (st' := [.int 26, .ref 249, .int ((mA M 249) 3), .int 3, .ref 249]) (pc' := 13) hk (.bipush 26) 2 rfl rfl rfl ?_
  refine ev_ls (L' := [some (.ref 247), some (.int a1)]) (st' := [.int a1, .int 26, .ref 249, .int ((mA M 249) 3), .int 3, .ref 249]) (pc' := 14) hk (.iload_n 1) 1 rfl rfl rfl rfl ?_
  refine ev_op (st' := [.int (26 + a1), .ref 249, .int ((mA M 249) 3), .int 3, .ref 249]) (pc' := 15) hk (.iadd) 1 rfl rfl rfl ?_
  obtain ⟨v5, hv5, hx⟩ := bnd_some hx
  refine ev_ial hv5 16 hk rfl lk_m249 rfl ?_
  refine ev_op (st' := [.int 2, .int v5, .int ((mA M 249) 3), .int 3, .ref 249]) (pc' := 17) hk (.iconst 2) 1 rfl rfl rfl ?_
  refine ev_div 18 hk rfl (by decide) rfl ?_
  refine ev_op (st' := [.int (((mA M 249) 3) + (v5 / 2)), .int 3, .ref 249]) (pc' := 19) hk (.iadd) 1 rfl rfl rfl ?_
  obtain ⟨M6, hM6, hx⟩ := bnd_some hx
  have hM6 := Option.some.inj hM6
  refine ev_ias (A := (upd (mA M 249) 3 (((mA M 249) 3) + (v5 / 2)))) rfl 20 hk rfl lk_m249 (sa_m249 hM6) rfl ?_
  refine ev_ls (L' := [some (.ref 247), some (.int a1)]) (st' := [.ref 247]) (pc' := 21) hk (.aload_n 0) 1 rfl rfl rfl rfl ?_
  refine ev_gf (.ref 249) 24 hk rfl rfl lk_model rfl rfl ?_
  refine ev_op (st' := [.int 26, .ref 249]) (pc' := 26) hk (.bipush 26) 2 rfl rfl rfl ?_
  refine ev_ls (L' := [some (.ref 247), some (.int a1)]) (st' := [.int a1, .int 26, .ref 249]) (pc' := 27) hk (.iload_n 1) 1 rfl rfl rfl rfl ?_
  refine ev_op (st' := [.int (26 + a1), .ref 249]) (pc' := 28) hk (.iadd) 1 rfl rfl rfl ?_
  refine ev_op (st' := [.int 0, .int (26 + a1), .ref 249]) (pc' := 29) hk (.iconst 0) 1 rfl rfl rfl ?_
  obtain ⟨A7, hA7, hx⟩ := bnd_some hx
  obtain ⟨M8, hM8, hx⟩ := bnd_some hx
  have hM8 := Option.some.inj hM8
  refine ev_ias hA7 30 hk rfl lk_m249 (sa_m249 hM8) rfl ?_
  refine ev_ls (L' := [some (.ref 247), some (.int a1)]) (st' := [.ref 247]) (pc' := 31) hk (.aload_n 0) 1 rfl rfl rfl rfl ?_
  refine ev_ls (L' := [some (.ref 247), some (.int a1)]) (st' := [.int a1, .ref 247]) (pc' := 32) hk (.iload_n 1) 1 rfl rfl rfl rfl ?_
  obtain ⟨v10, M9, hc11, hx⟩ := bnd2_some hx
  refine ev_cv 178 1 [.int v10] 35 hk rfl rfl rfl rfl lk_model rfl rfl rfl (rM_tears hc11) rfl rfl rfl rfl ?_
  cases hx
  obtain rfl := hM
  exact ev_retI hk rfl rfl
set_option maxRecDepth 2000 in
theorem rM_rip {S : Nat} {xs : Nat → Int32} {I : zI} {C : zC} {Y : Nat → Int32} {Γ : Nat → zG} {D : zD} {O : Nat → Int32} {M : zM} {ou : Nat → Int64} {od : Nat → UInt64} {j : Nat} {a1 : Int32} {X : Int32 × zM}   (hx : fM_rip M a1 = some X) : Ev S xs 156 0 [some (.ref 247), some (.int a1)] [] (zH I C Y Γ D O M ou od j) (((.inl (some (.int X.1))), (zH I C Y Γ D O X.2 ou od j)) : (Option Value ⊕ String) × px_H) := by
  generalize hM : (((.inl (some (.int X.1))), (zH I C Y Γ D O X.2 ou od j)) : (Option Value ⊕ String) × px_H) = y
  replace hM := hM.symm
  have hk : pt_mt[156]? = some pt_r156 := rfl
  unfold fM_rip at hx
  refine ev_ls (L' := [some (.ref 247), some (.int a1)]) (st' := [.ref 247]) (pc' := 1) hk (.aload_n 0) 1 rfl rfl rfl rfl ?_
  refine ev_ls (L' := [some (.ref 247), some (.int a1)]) (st' := [.ref 247, .ref 247]) (pc' := 2) hk (.aload_n 0) 1 rfl rfl rfl rfl ?_
  refine ev_ls (L' := [some (.ref 247), some (.int a1)]) (st' := [.int a1, .ref 247, .ref 247]) (pc' := 3) hk (.iload_n 1) 1 rfl rfl rfl rfl ?_
  refine ev_cv 85 1 [.int (b2i (fM_isGore M a1)), .ref 247] 6 hk rfl rfl rfl rfl lk_model rfl rfl rfl (rM_isGore rfl) rfl rfl rfl rfl ?_
  refine ev_ls (L' := [some (.ref 247), some (.int a1)]) (st' := [.ref 247, .int (b2i (fM_isGore M a1)), .ref 247]) (pc' := 7) hk (.aload_n 0) 1 rfl rfl rfl rfl ?_
  refine ev_ls (L' := [some (.ref 247), some (.int a1)]) (st' := [.int a1, .ref 247, .int (b2i (fM_isGore M a1)), .ref 247]) (pc' := 8) hk (.iload_n 1) 1 rfl rfl rfl rfl ?_
  obtain ⟨v1, hc2, hx⟩ := bnd_some hx
  refine ev_cv 131 1 [.int (b2i v1), .int (b2i (fM_isGore M a1)), .ref 247] 11 hk rfl rfl rfl rfl lk_model rfl rfl rfl (rM_mayRip hc2) rfl rfl rfl rfl ?_
  obtain ⟨v4, M3, hc5, hx⟩ := bnd2_some hx
  refine ev_cv 61 2 [.int (b2i v4)] 14 hk rfl rfl rfl rfl lk_model rfl rfl rfl (rM_goesBoth hc5) rfl rfl rfl rfl ?_
  refine ev_d1 19 17 hk rfl rfl rfl rfl (px_bne hx (fun hc hx => ?_) (fun hc hx => ?_))
  · refine ev_ls (L' := [some (.ref 247), some (.int a1)]) (st' := [.ref 247]) (pc' := 20) hk (.aload_n 0) 1 rfl rfl rfl rfl ?_
    obtain ⟨M6, hc7, hx⟩ := bnd_some hx
    refine ev_cv 117 0 [] 23 hk rfl rfl rfl rfl lk_model rfl rfl rfl (rM_laysAside hc7) rfl rfl rfl rfl ?_
    refine ev_ls (L' := [some (.ref 247), some (.int a1)]) (st' := [.ref 247]) (pc' := 24) hk (.aload_n 0) 1 rfl rfl rfl rfl ?_
    refine ev_ls (L' := [some (.ref 247), some (.int a1)]) (st' := [.ref 247, .ref 247]) (pc' := 25) hk (.aload_n 0) 1 rfl rfl rfl rfl ?_
    refine ev_ls (L' := [some (.ref 247), some (.int a1)]) (st' := [.int a1, .ref 247, .ref 247]) (pc' := 26) hk (.iload_n 1) 1 rfl rfl rfl rfl ?_
    obtain ⟨v9, M8, hc10, hx⟩ := bnd2_some hx
    refine ev_cv 158 1 [.int v9, .ref 247] 29 hk rfl rfl rfl rfl lk_model rfl rfl rfl (rM_rips hc10) rfl rfl rfl rfl ?_
    obtain ⟨v12, M11, hc13, hx⟩ := bnd2_some hx
    refine ev_cv 105 1 [.int v12] 32 hk rfl rfl rfl rfl lk_model rfl rfl rfl (rM_kept hc13) rfl rfl rfl rfl ?_
    cases hx
    obtain rfl := hM
    exact ev_retI hk rfl rfl
  · refine ev_op (st' := [.int 0]) (pc' := 18) hk (.iconst 0) 1 rfl rfl rfl ?_
    cases hx
    obtain rfl := hM
    exact ev_retI hk rfl rfl
set_option maxRecDepth 2000 in
theorem rG_canSew {S : Nat} {xs : Nat → Int32} {I : zI} {C : zC} {Y : Nat → Int32} {Γ : Nat → zG} {D : zD} {O : Nat → Int32} {M : zM} {ou : Nat → Int64} {od : Nat → UInt64} {j : Nat} {g : Nat} {G : zG} {a1 : Int32} {a2 : Int32} {X : Bool}  (hg : isG g) (hx : fG_canSew G a1 a2 = some X) : Ev S xs 215 0 [some (.ref g), some (.int a1), some (.int a2)] [] (zH I C Y (gup Γ g G) D O M ou od j) (((.inl (some (.int (b2i X)))), (zH I C Y (gup Γ g G) D O M ou od j)) : (Option Value ⊕ String) × px_H) := by
  generalize hM : (((.inl (some (.int (b2i X)))), (zH I C Y (gup Γ g G) D O M ou od j)) : (Option Value ⊕ String) × px_H) = y
  replace hM := hM.symm
  have hk : pt_mt[215]? = some pt_r215 := rfl
  unfold fG_canSew at hx
  refine ev_ls (L' := [some (.ref g), some (.int a1), some (.int a2)]) (st' := [.ref g]) (pc' := 1) hk (.aload_n 0) 1 rfl rfl rfl rfl ?_
  refine ev_gf (.ref (g + 1)) 4 hk rfl rfl (lk_globe hg gup_same) rfl rfl ?_
  refine ev_gf (.ref (g + 4)) 7 hk rfl rfl (lk_cloth hg gup_same) rfl rfl ?_
  refine ev_ls (L' := [some (.ref g), some (.int a1), some (.int a2)]) (st' := [.int a1, .ref (g + 4)]) (pc' := 8) hk (.iload_n 1) 1 rfl rfl rfl rfl ?_
  obtain ⟨v2, hv2, hx⟩ := bnd_some hx
  refine ev_ial hv2 9 hk rfl (lk_a4 hg gup_same) rfl ?_
  refine ev_ls (L' := [some (.ref g), some (.int a1), some (.int a2)]) (st' := [.int a2, .int v2]) (pc' := 10) hk (.iload_n 2) 1 rfl rfl rfl rfl ?_
  refine ev_op (st' := [.int (v2 + a2)]) (pc' := 11) hk (.iadd) 1 rfl rfl rfl ?_
  refine ev_op (st' := [.int 99, .int (v2 + a2)]) (pc' := 13) hk (.bipush 99) 2 rfl rfl rfl ?_
  refine ev_d2 28 16 hk rfl rfl rfl rfl (px_cgt hx (fun hc hx => ?_) (fun hc hx => ?_))
  · refine ev_op (st' := [.int 0]) (pc' := 29) hk (.iconst 0) 1 rfl rfl rfl ?_
    cases hx
    obtain rfl := hM
    exact ev_retZ false rfl hk rfl rfl
  · refine ev_ls (L' := [some (.ref g), some (.int a1), some (.int a2)]) (st' := [.int a2]) (pc' := 17) hk (.iload_n 2) 1 rfl rfl rfl rfl ?_
    refine ev_ls (L' := [some (.ref g), some (.int a1), some (.int a2)]) (st' := [.ref g, .int a2]) (pc' := 18) hk (.aload_n 0) 1 rfl rfl rfl rfl ?_
    refine ev_gf (.int (gF G 0 3)) 21 hk rfl rfl (lk_globe hg gup_same) rfl rfl ?_
    refine ev_d2 28 24 hk rfl rfl rfl rfl (px_cgt hx (fun hc hx => ?_) (fun hc hx => ?_))
    · refine ev_op (st' := [.int 0]) (pc' := 29) hk (.iconst 0) 1 rfl rfl rfl ?_
      cases hx
      obtain rfl := hM
      exact ev_retZ false rfl hk rfl rfl
    · refine ev_op (st' := [.int 1]) (pc' := 25) hk (.iconst 1) 1 rfl rfl rfl ?_
      refine ev_jp (pc' := 29) (st' := [.int 1]) hk (.goto 4) 3 rfl rfl rfl rfl rfl ?_
      cases hx
      obtain rfl := hM
      exact ev_retZ true rfl hk rfl rfl
set_option maxRecDepth 2000 in
theorem rG_sewRefusal {S : Nat} {xs : Nat → Int32} {I : zI} {C : zC} {Y : Nat → Int32} {Γ : Nat → zG} {D : zD} {O : Nat → Int32} {M : zM} {ou : Nat → Int64} {od : Nat → UInt64} {j : Nat} {g : Nat} {G : zG} {a1 : Int32} {a2 : Int32} {X : Int32}  (hg : isG g) (hx : fG_sewRefusal G a1 a2 = some X) : Ev S xs 247 0 [some (.ref g), some (.int a1), some (.int a2)] [] (zH I C Y (gup Γ g G) D O M ou od j) (((.inl (some (.int X))), (zH I C Y (gup Γ g G) D O M ou od j)) : (Option Value ⊕ String) × px_H) := by
  generalize hM : (((.inl (some (.int X))), (zH I C Y (gup Γ g G) D O M ou od j)) : (Option Value ⊕ String) × px_H) = y
  replace hM := hM.symm
  have hk : pt_mt[247]? = some pt_r247 := rfl
  unfold fG_sewRefusal at hx
  refine ev_ls (L' := [some (.ref g), some (.int a1), some (.int a2)]) (st' := [.ref g]) (pc' := 1) hk (.aload_n 0) 1 rfl rfl rfl rfl ?_
  refine ev_gf (.ref (g + 1)) 4 hk rfl rfl (lk_globe hg gup_same) rfl rfl ?_
  refine ev_ls (L' := [some (.ref g), some (.int a1), some (.int a2)]) (st' := [.int a1, .ref (g + 1)]) (pc' := 5) hk (.iload_n 1) 1 rfl rfl rfl rfl ?_
  refine ev_cv 9 1 [.int (b2i (fC_hasGore G a1))] 8 hk rfl rfl rfl rfl (lk_cloth hg gup_same) rfl rfl rfl (rC_hasGore hg rfl) rfl rfl rfl rfl ?_
  refine ev_d1 13 11 hk rfl rfl rfl rfl (px_bne hx (fun hc hx => ?_) (fun hc hx => ?_))
  · refine ev_ls (L' := [some (.ref g), some (.int a1), some (.int a2)]) (st' := [.int a2]) (pc' := 14) hk (.iload_n 2) 1 rfl rfl rfl rfl ?_
    refine ev_op (st' := [.int 1, .int a2]) (pc' := 15) hk (.iconst 1) 1 rfl rfl rfl ?_
    refine ev_d2 24 18 hk rfl rfl rfl rfl (px_clt hx (fun hc hx => ?_) (fun hc hx => ?_))
    · refine ev_op (st' := [.int 2]) (pc' := 25) hk (.iconst 2) 1 rfl rfl rfl ?_
      cases hx
      obtain rfl := hM
      exact ev_retI hk rfl rfl
    · refine ev_ls (L' := [some (.ref g), some (.int a1), some (.int a2)]) (st' := [.int a2]) (pc' := 19) hk (.iload_n 2) 1 rfl rfl rfl rfl ?_
      refine ev_op (st' := [.int 99, .int a2]) (pc' := 21) hk (.bipush 99) 2 rfl rfl rfl ?_
      refine ev_d2 26 24 hk rfl rfl rfl rfl (px_cle hx (fun hc hx => ?_) (fun hc hx => ?_))
      · refine ev_ls (L' := [some (.ref g), some (.int a1), some (.int a2)]) (st' := [.ref g]) (pc' := 27) hk (.aload_n 0) 1 rfl rfl rfl rfl ?_
        refine ev_ls (L' := [some (.ref g), some (.int a1), some (.int a2)]) (st' := [.int a1, .ref g]) (pc' := 28) hk (.iload_n 1) 1 rfl rfl rfl rfl ?_
        refine ev_ls (L' := [some (.ref g), some (.int a1), some (.int a2)]) (st' := [.int a2, .int a1, .ref g]) (pc' := 29) hk (.iload_n 2) 1 rfl rfl rfl rfl ?_
        obtain ⟨v1, hc2, hx⟩ := bnd_some hx
        refine ev_cv 215 2 [.int (b2i v1)] 32 hk rfl rfl rfl rfl (lk_globe hg gup_same) rfl rfl rfl (rG_canSew hg hc2) rfl rfl rfl rfl ?_
        refine ev_d1 39 35 hk rfl rfl rfl rfl (px_beq hx (fun hc hx => ?_) (fun hc hx => ?_))
        · refine ev_op (st' := [.int 3]) (pc' := 40) hk (.iconst 3) 1 rfl rfl rfl ?_
          cases hx
          obtain rfl := hM
          exact ev_retI hk rfl rfl
        · refine ev_op (st' := [.int 0]) (pc' := 36) hk (.iconst 0) 1 rfl rfl rfl ?_
          refine ev_jp (pc' := 40) (st' := [.int 0]) hk (.goto 4) 3 rfl rfl rfl rfl rfl ?_
          cases hx
          obtain rfl := hM
          exact ev_retI hk rfl rfl
      · refine ev_op (st' := [.int 2]) (pc' := 25) hk (.iconst 2) 1 rfl rfl rfl ?_
        cases hx
        obtain rfl := hM
        exact ev_retI hk rfl rfl
  · refine ev_op (st' := [.int 1]) (pc' := 12) hk (.iconst 1) 1 rfl rfl rfl ?_
    cases hx
    obtain rfl := hM
    exact ev_retI hk rfl rfl
set_option maxRecDepth 2000 in
theorem rG_addStitches {S : Nat} {xs : Nat → Int32} {I : zI} {C : zC} {Y : Nat → Int32} {Γ : Nat → zG} {D : zD} {O : Nat → Int32} {M : zM} {ou : Nat → Int64} {od : Nat → UInt64} {j : Nat} {g : Nat} {G : zG} {a1 : Int32} {a2 : Int32} {X : Int32 × zG}  (hg : isG g) (hx : fG_addStitches G a1 a2 = some X) : Ev S xs 214 0 [some (.ref g), some (.int a1), some (.int a2)] [] (zH I C Y (gup Γ g G) D O M ou od j) (((.inl (some (.int X.1))), (zH I C Y (gup Γ g X.2) D O M ou od j)) : (Option Value ⊕ String) × px_H) := by
  generalize hM : (((.inl (some (.int X.1))), (zH I C Y (gup Γ g X.2) D O M ou od j)) : (Option Value ⊕ String) × px_H) = y
  replace hM := hM.symm
  have hk : pt_mt[214]? = some pt_r214 := rfl
  unfold fG_addStitches at hx
  refine ev_ls (L' := [some (.ref g), some (.int a1), some (.int a2)]) (st' := [.ref g]) (pc' := 1) hk (.aload_n 0) 1 rfl rfl rfl rfl ?_
  refine ev_op (st' := [.ref g, .ref g]) (pc' := 2) hk (.dup) 1 rfl rfl rfl ?_
  refine ev_gf (.int (gF G 0 3)) 5 hk rfl rfl (lk_globe hg gup_same) rfl rfl ?_
  refine ev_ls (L' := [some (.ref g), some (.int a1), some (.int a2)]) (st' := [.int a2, .int (gF G 0 3), .ref g]) (pc' := 6) hk (.iload_n 2) 1 rfl rfl rfl rfl ?_
  refine ev_op (st' := [.int ((gF G 0 3) - a2), .ref g]) (pc' := 7) hk (.isub) 1 rfl rfl rfl ?_
  obtain ⟨G6, hG6, hx⟩ := bnd_some hx
  have hG6 := Option.some.inj hG6
  refine ev_pf 10 hk rfl rfl (lk_globe hg gup_same) rfl rfl rfl (sf_1_3 hg  gup_same hG6 gup_gup) rfl ?_
  refine ev_ls (L' := [some (.ref g), some (.int a1), some (.int a2)]) (st' := [.ref g]) (pc' := 11) hk (.aload_n 0) 1 rfl rfl rfl rfl ?_
  refine ev_gf (.ref (g + 1)) 14 hk rfl rfl (lk_globe hg gup_same) rfl rfl ?_
  refine ev_gf (.ref (g + 4)) 17 hk rfl rfl (lk_cloth hg gup_same) rfl rfl ?_
  refine ev_ls (L' := [some (.ref g), some (.int a1), some (.int a2)]) (st' := [.int a1, .ref (g + 4)]) (pc' := 18) hk (.iload_n 1) 1 rfl rfl rfl rfl ?_
  refine ev_op (st' := [.int a1, .ref (g + 4), .int a1, .ref (g + 4)]) (pc' := 19) hk (.dup2) 1 rfl rfl rfl ?_
  obtain ⟨v7, hv7, hx⟩ := bnd_some hx
  refine ev_ial hv7 20 hk rfl (lk_a4 hg gup_same) rfl ?_
  refine ev_ls (L' := [some (.ref g), some (.int a1), some (.int a2)]) (st' := [.int a2, .int v7, .int a1, .ref (g + 4)]) (pc' := 21) hk (.iload_n 2) 1 rfl rfl rfl rfl ?_
  refine ev_op (st' := [.int (v7 + a2), .int a1, .ref (g + 4)]) (pc' := 22) hk (.iadd) 1 rfl rfl rfl ?_
  obtain ⟨A8, hA8, hx⟩ := bnd_some hx
  obtain ⟨G9, hG9, hx⟩ := bnd_some hx
  have hG9 := Option.some.inj hG9
  refine ev_ias hA8 23 hk rfl (lk_a4 hg gup_same) (sa_g4 hg gup_same hG9 gup_gup) rfl ?_
  refine ev_ls (L' := [some (.ref g), some (.int a1), some (.int a2)]) (st' := [.ref g]) (pc' := 24) hk (.aload_n 0) 1 rfl rfl rfl rfl ?_
  refine ev_gf (.ref (g + 1)) 27 hk rfl rfl (lk_globe hg gup_same) rfl rfl ?_
  refine ev_gf (.ref (g + 4)) 30 hk rfl rfl (lk_cloth hg gup_same) rfl rfl ?_
  refine ev_ls (L' := [some (.ref g), some (.int a1), some (.int a2)]) (st' := [.int a1, .ref (g + 4)]) (pc' := 31) hk (.iload_n 1) 1 rfl rfl rfl rfl ?_
  obtain ⟨v10, hv10, hx⟩ := bnd_some hx
  refine ev_ial hv10 32 hk rfl (lk_a4 hg gup_same) rfl ?_
  cases hx
  obtain rfl := hM
  exact ev_retI hk rfl rfl
set_option maxRecDepth 2000 in
theorem rX_sew {S : Nat} {xs : Nat → Int32} {I : zI} {C : zC} {Y : Nat → Int32} {Γ : Nat → zG} {D : zD} {O : Nat → Int32} {M : zM} {ou : Nat → Int64} {od : Nat → UInt64} {j : Nat} {a1 : Int32} {a2 : Int32} {X : (Int32 ⊕ String) × (Nat → Int32) × (Nat → zG)}   (hx : fX_sew Y Γ a1 a2 = some X) : Ev S xs 355 0 [some (.ref 0), some (.int a1), some (.int a2)] [] (zH I C Y Γ D O M ou od j) (Sum.elim (fun v => ((.inl (some (.int v))), (zH I C X.2.1 X.2.2 D O M ou od j))) (fun E => (.inr E, (zH I C X.2.1 X.2.2 D O M ou od (j + 1)))) X.1 : (Option Value ⊕ String) × px_H) := by
  generalize hM : (Sum.elim (fun v => ((.inl (some (.int v))), (zH I C X.2.1 X.2.2 D O M ou od j))) (fun E => (.inr E, (zH I C X.2.1 X.2.2 D O M ou od (j + 1)))) X.1 : (Option Value ⊕ String) × px_H) = y
  replace hM := hM.symm
  have hk : pt_mt[355]? = some pt_r355 := rfl
  unfold fX_sew at hx
  refine ev_ls (L' := [some (.ref 0), some (.int a1), some (.int a2)]) (st' := [.ref 0]) (pc' := 1) hk (.aload_n 0) 1 rfl rfl rfl rfl ?_
  refine ev_gf (.ref 10) 4 hk rfl rfl lk_dh rfl rfl ?_
  refine ev_ls (L' := [some (.ref 0), some (.int a1), some (.int a2)]) (st' := [.int a1, .ref 10]) (pc' := 5) hk (.iload_n 1) 1 rfl rfl rfl rfl ?_
  refine ev_ls (L' := [some (.ref 0), some (.int a1), some (.int a2)]) (st' := [.int a2, .int a1, .ref 10]) (pc' := 6) hk (.iload_n 2) 1 rfl rfl rfl rfl ?_
  obtain ⟨v1, hc2, hx⟩ := bnd_some hx
  refine ev_cv 247 2 [.int v1] 9 hk rfl rfl rfl rfl (lk_globe isG_10 rfl) rfl rfl rfl (ev_gs2 (rG_sewRefusal isG_10 hc2)) rfl rfl rfl rfl ?_
  rcases bnx_some hx with ⟨⟨⟩, hc3, hx⟩ | ⟨E4, hc3, hx⟩
  · skip
    refine ev_cs 350 1 [] 12 hk rfl rfl (by decide) rfl rfl rfl (rX_refuse hc3) rfl rfl rfl rfl ?_
    refine ev_ls (L' := [some (.ref 0), some (.int a1), some (.int a2)]) (st' := [.ref 0]) (pc' := 13) hk (.aload_n 0) 1 rfl rfl rfl rfl ?_
    refine ev_gf (.ref 88) 16 hk rfl rfl lk_dh rfl rfl ?_
    refine ev_ls (L' := [some (.ref 0), some (.int a1), some (.int a2)]) (st' := [.ref 0, .ref 88]) (pc' := 17) hk (.aload_n 0) 1 rfl rfl rfl rfl ?_
    refine ev_gf (.ref 10) 20 hk rfl rfl lk_dh rfl rfl ?_
    obtain ⟨Y6, Γ7, hc8, hx⟩ := bnd2_some hx
    refine ev_cv 261 1 [] 23 hk rfl rfl rfl rfl lk_hist rfl rfl rfl (rY_remember isG_10 (by decide) hc8) rfl rfl rfl rfl ?_
    refine ev_ls (L' := [some (.ref 0), some (.int a1), some (.int a2)]) (st' := [.ref 0]) (pc' := 24) hk (.aload_n 0) 1 rfl rfl rfl rfl ?_
    refine ev_gf (.ref 10) 27 hk rfl rfl lk_dh rfl rfl ?_
    refine ev_ls (L' := [some (.ref 0), some (.int a1), some (.int a2)]) (st' := [.int a1, .ref 10]) (pc' := 28) hk (.iload_n 1) 1 rfl rfl rfl rfl ?_
    refine ev_ls (L' := [some (.ref 0), some (.int a1), some (.int a2)]) (st' := [.int a2, .int a1, .ref 10]) (pc' := 29) hk (.iload_n 2) 1 rfl rfl rfl rfl ?_
    obtain ⟨v10, G9, hc11, hx⟩ := bnd2_some hx
    refine ev_cv 214 2 [.int v10] 32 hk rfl rfl rfl rfl (lk_globe isG_10 rfl) rfl rfl rfl (ev_gs (rG_addStitches isG_10 hc11)) rfl rfl rfl rfl ?_
    cases hx
    obtain rfl := hM
    exact ev_retI hk rfl rfl
  · skip
    cases hx
    obtain rfl := hM
    exact ev_csX 350 1 hk rfl rfl (by decide) rfl rfl rfl rfl (rX_refuse hc3) rfl rfl
set_option maxRecDepth 2000 in
theorem rw_sew {S : Nat} {xs : Nat → Int32} {I : zI} {C : zC} {Y : Nat → Int32} {Γ : Nat → zG} {D : zD} {O : Nat → Int32} {M : zM} {ou : Nat → Int64} {od : Nat → UInt64} {j : Nat} {a1 : Int32} {a2 : Int32} {X : Int32 × (Nat → Int32) × (Nat → zG) × (Nat → Int64) × Nat}   (hx : fw_sew Y Γ ou j a1 a2 = some X) : Ev S xs 403 0 [some (.ref 0), some (.int a1), some (.int a2), some (.ref 261), none] [] (zH I C Y Γ D O M ou od j) (((.inl (some (.int X.1))), (zH I C X.2.1 X.2.2.1 D O M X.2.2.2.1 od X.2.2.2.2)) : (Option Value ⊕ String) × px_H) := by
  generalize hM : (((.inl (some (.int X.1))), (zH I C X.2.1 X.2.2.1 D O M X.2.2.2.1 od X.2.2.2.2)) : (Option Value ⊕ String) × px_H) = y
  replace hM := hM.symm
  have hk : pt_mt[403]? = some pt_r403 := rfl
  unfold fw_sew at hx
  refine ev_ls (L' := [some (.ref 0), some (.int a1), some (.int a2), some (.ref 261), none]) (st' := [.ref 261]) (pc' := 1) hk (.aload_n 3) 1 rfl rfl rfl rfl ?_
  refine ev_op (st' := [.int 0, .ref 261]) (pc' := 2) hk (.iconst 0) 1 rfl rfl rfl ?_
  refine ev_ls (L' := [some (.ref 0), some (.int a1), some (.int a2), some (.ref 261), none]) (st' := [.ref 0, .int 0, .ref 261]) (pc' := 3) hk (.aload_n 0) 1 rfl rfl rfl rfl ?_
  refine ev_ls (L' := [some (.ref 0), some (.int a1), some (.int a2), some (.ref 261), none]) (st' := [.int a1, .ref 0, .int 0, .ref 261]) (pc' := 4) hk (.iload_n 1) 1 rfl rfl rfl rfl ?_
  refine ev_ls (L' := [some (.ref 0), some (.int a1), some (.int a2), some (.ref 261), none]) (st' := [.int a2, .int a1, .ref 0, .int 0, .ref 261]) (pc' := 5) hk (.iload_n 2) 1 rfl rfl rfl rfl ?_
  obtain ⟨r8, Y2, Γ3, hc4, hx⟩ := bnd3_some hx
  rcases r8 with v6 | E5
  · simp only [Sum.elim_inl] at hx
    refine ev_cv 355 2 [.int v6, .int 0, .ref 261] 8 hk rfl rfl rfl rfl lk_dh rfl rfl rfl (rX_sew hc4) rfl rfl rfl rfl ?_
    refine ev_op (st' := [.long (Int32.toInt64 v6), .int 0, .ref 261]) (pc' := 9) hk (.i2l) 1 rfl rfl rfl ?_
    obtain ⟨ou7, hou7, hx⟩ := bnd_some hx
    have hou7 := Option.some.inj hou7
    refine ev_las (A := (vp_updL ou 0 (Int32.toInt64 v6))) rfl 10 hk rfl lk_ou (sa_ou hou7) rfl ?_
    refine ev_jp (pc' := 25) (st' := []) hk (.goto 15) 3 rfl rfl rfl rfl rfl ?_
    refine ev_op (st' := [.int 0]) (pc' := 26) hk (.iconst 0) 1 rfl rfl rfl ?_
    cases hx
    obtain rfl := hM
    exact ev_retI hk rfl rfl
  · simp only [Sum.elim_inr] at hx
    rcases ite_or hx with ⟨hE, hx⟩ | ⟨hE, hx⟩
    · subst hE
      refine ev_cvC 355 2 15 hk rfl rfl rfl rfl lk_dh rfl rfl rfl (t := 13) (by decide +kernel) (L' := [some (.ref 0), some (.int a1), some (.int a2), some (.ref 261), none]) rfl (rX_sew hc4) rfl rfl ?_
      refine ev_op (st' := [.int 1]) (pc' := 16) hk (.iconst 1) 1 rfl rfl rfl ?_
      cases hx
      obtain rfl := hM
      exact ev_retI hk rfl rfl
    rcases ite_or hx with ⟨hE, hx⟩ | ⟨hE, hx⟩
    · subst hE
      refine ev_cvC 355 2 19 hk rfl rfl rfl rfl lk_dh rfl rfl rfl (t := 17) (by decide +kernel) (L' := [some (.ref 0), some (.int a1), some (.int a2), some (.ref 261), none]) rfl (rX_sew hc4) rfl rfl ?_
      refine ev_op (st' := [.int 2]) (pc' := 20) hk (.iconst 2) 1 rfl rfl rfl ?_
      cases hx
      obtain rfl := hM
      exact ev_retI hk rfl rfl
    rcases ite_or hx with ⟨hE, hx⟩ | ⟨hE, hx⟩
    · subst hE
      refine ev_cvC 355 2 23 hk rfl rfl rfl rfl lk_dh rfl rfl rfl (t := 21) (by decide +kernel) (L' := [some (.ref 0), some (.int a1), some (.int a2), some (.ref 261), none]) rfl (rX_sew hc4) rfl rfl ?_
      refine ev_op (st' := [.int 3]) (pc' := 24) hk (.iconst 3) 1 rfl rfl rfl ?_
      cases hx
      obtain rfl := hM
      exact ev_retI hk rfl rfl
    cases hx
set_option maxRecDepth 2000 in
theorem rM_areStitches {S : Nat} {xs : Nat → Int32} {I : zI} {C : zC} {Y : Nat → Int32} {Γ : Nat → zG} {D : zD} {O : Nat → Int32} {M : zM} {ou : Nat → Int64} {od : Nat → UInt64} {j : Nat} {a0 : Int32} {X : Bool}   (hx : fM_areStitches a0 = X) : Ev S xs 24 0 [some (.int a0)] [] (zH I C Y Γ D O M ou od j) (((.inl (some (.int (b2i X)))), (zH I C Y Γ D O M ou od j)) : (Option Value ⊕ String) × px_H) := by
  generalize hM : (((.inl (some (.int (b2i X)))), (zH I C Y Γ D O M ou od j)) : (Option Value ⊕ String) × px_H) = y
  replace hM := hM.symm
  have hk : pt_mt[24]? = some pt_r24 := rfl
  unfold fM_areStitches at hx
  refine ev_ls (L' := [some (.int a0)]) (st' := [.int a0]) (pc' := 1) hk (.iload_n 0) 1 rfl rfl rfl rfl ?_
  refine ev_op (st' := [.long (Int32.toInt64 a0)]) (pc' := 2) hk (.i2l) 1 rfl rfl rfl ?_
  refine ev_op (st' := [.long 1, .long (Int32.toInt64 a0)]) (pc' := 3) hk (.lconst 1) 1 rfl rfl rfl ?_
  refine ev_ldJ 99 6 hk rfl rfl rfl ?_
  refine ev_cs 86 3 [.int (b2i (fM_isIn (Int32.toInt64 a0) 1 99))] 9 hk rfl rfl (by decide) rfl rfl rfl (rM_isIn rfl) rfl rfl rfl rfl ?_
  cases hx
  obtain rfl := hM
  exact ev_retZ _ rfl hk rfl rfl
set_option maxRecDepth 2000 in
theorem rM_maySew {S : Nat} {xs : Nat → Int32} {I : zI} {C : zC} {Y : Nat → Int32} {Γ : Nat → zG} {D : zD} {O : Nat → Int32} {M : zM} {ou : Nat → Int64} {od : Nat → UInt64} {j : Nat} {a1 : Int32} {a2 : Int32} {X : Bool}   (hx : fM_maySew M a1 a2 = some X) : Ev S xs 132 0 [some (.ref 247), some (.int a1), some (.int a2)] [] (zH I C Y Γ D O M ou od j) (((.inl (some (.int (b2i X)))), (zH I C Y Γ D O M ou od j)) : (Option Value ⊕ String) × px_H) := by
  generalize hM : (((.inl (some (.int (b2i X)))), (zH I C Y Γ D O M ou od j)) : (Option Value ⊕ String) × px_H) = y
  replace hM := hM.symm
  have hk : pt_mt[132]? = some pt_r132 := rfl
  unfold fM_maySew at hx
  refine ev_ls (L' := [some (.ref 247), some (.int a1), some (.int a2)]) (st' := [.ref 247]) (pc' := 1) hk (.aload_n 0) 1 rfl rfl rfl rfl ?_
  refine ev_ls (L' := [some (.ref 247), some (.int a1), some (.int a2)]) (st' := [.int a1, .ref 247]) (pc' := 2) hk (.iload_n 1) 1 rfl rfl rfl rfl ?_
  refine ev_cv 85 1 [.int (b2i (fM_isGore M a1))] 5 hk rfl rfl rfl rfl lk_model rfl rfl rfl (rM_isGore rfl) rfl rfl rfl rfl ?_
  refine ev_d1 38 8 hk rfl rfl rfl rfl (px_beq hx (fun hc hx => ?_) (fun hc hx => ?_))
  · refine ev_op (st' := [.int 0]) (pc' := 39) hk (.iconst 0) 1 rfl rfl rfl ?_
    cases hx
    obtain rfl := hM
    exact ev_retZ false rfl hk rfl rfl
  · refine ev_ls (L' := [some (.ref 247), some (.int a1), some (.int a2)]) (st' := [.ref 247]) (pc' := 9) hk (.aload_n 0) 1 rfl rfl rfl rfl ?_
    refine ev_gf (.ref 249) 12 hk rfl rfl lk_model rfl rfl ?_
    refine ev_op (st' := [.int 26, .ref 249]) (pc' := 14) hk (.bipush 26) 2 rfl rfl rfl ?_
    refine ev_ls (L' := [some (.ref 247), some (.int a1), some (.int a2)]) (st' := [.int a1, .int 26, .ref 249]) (pc' := 15) hk (.iload_n 1) 1 rfl rfl rfl rfl ?_
    refine ev_op (st' := [.int (26 + a1), .ref 249]) (pc' := 16) hk (.iadd) 1 rfl rfl rfl ?_
    obtain ⟨v2, hv2, hx⟩ := bnd_some hx
    refine ev_ial hv2 17 hk rfl lk_m249 rfl ?_
    refine ev_ls (L' := [some (.ref 247), some (.int a1), some (.int a2)]) (st' := [.int a2, .int v2]) (pc' := 18) hk (.iload_n 2) 1 rfl rfl rfl rfl ?_
    refine ev_op (st' := [.int (v2 + a2)]) (pc' := 19) hk (.iadd) 1 rfl rfl rfl ?_
    refine ev_op (st' := [.int 99, .int (v2 + a2)]) (pc' := 21) hk (.bipush 99) 2 rfl rfl rfl ?_
    refine ev_d2 38 24 hk rfl rfl rfl rfl (px_cgt hx (fun hc hx => ?_) (fun hc hx => ?_))
    · refine ev_op (st' := [.int 0]) (pc' := 39) hk (.iconst 0) 1 rfl rfl rfl ?_
      cases hx
      obtain rfl := hM
      exact ev_retZ false rfl hk rfl rfl
    · refine ev_ls (L' := [some (.ref 247), some (.int a1), some (.int a2)]) (st' := [.int a2]) (pc' := 25) hk (.iload_n 2) 1 rfl rfl rfl rfl ?_
      refine ev_ls (L' := [some (.ref 247), some (.int a1), some (.int a2)]) (st' := [.ref 247, .int a2]) (pc' := 26) hk (.aload_n 0) 1 rfl rfl rfl rfl ?_
      refine ev_gf (.ref 249) 29 hk rfl rfl lk_model rfl rfl ?_
      refine ev_op (st' := [.int 3, .ref 249, .int a2]) (pc' := 30) hk (.iconst 3) 1 rfl rfl rfl ?_
      refine ev_ial (v := ((mA M 249) 3)) rfl 31 hk rfl lk_m249 rfl ?_
      refine ev_d2 38 34 hk rfl rfl rfl rfl (px_cgt hx (fun hc hx => ?_) (fun hc hx => ?_))
      · refine ev_op (st' := [.int 0]) (pc' := 39) hk (.iconst 0) 1 rfl rfl rfl ?_
        cases hx
        obtain rfl := hM
        exact ev_retZ false rfl hk rfl rfl
      · refine ev_op (st' := [.int 1]) (pc' := 35) hk (.iconst 1) 1 rfl rfl rfl ?_
        refine ev_jp (pc' := 39) (st' := [.int 1]) hk (.goto 4) 3 rfl rfl rfl rfl rfl ?_
        cases hx
        obtain rfl := hM
        exact ev_retZ true rfl hk rfl rfl
set_option maxRecDepth 2000 in
theorem rM_sews {S : Nat} {xs : Nat → Int32} {I : zI} {C : zC} {Y : Nat → Int32} {Γ : Nat → zG} {D : zD} {O : Nat → Int32} {M : zM} {ou : Nat → Int64} {od : Nat → UInt64} {j : Nat} {a1 : Int32} {a2 : Int32} {X : Int32 × zM}   (hx : fM_sews M a1 a2 = some X) : Ev S xs 164 0 [some (.ref 247), some (.int a1), some (.int a2)] [] (zH I C Y Γ D O M ou od j) (((.inl (some (.int X.1))), (zH I C Y Γ D O X.2 ou od j)) : (Option Value ⊕ String) × px_H) := by
  generalize hM : (((.inl (some (.int X.1))), (zH I C Y Γ D O X.2 ou od j)) : (Option Value ⊕ String) × px_H) = y
  replace hM := hM.symm
  have hk : pt_mt[164]? = some pt_r164 := rfl
  unfold fM_sews at hx
  refine ev_ls (L' := [some (.ref 247), some (.int a1), some (.int a2)]) (st' := [.ref 247]) (pc' := 1) hk (.aload_n 0) 1 rfl rfl rfl rfl ?_
  refine ev_gf (.ref 249) 4 hk rfl rfl lk_model rfl rfl ?_
  refine ev_op (st' := [.int 26, .ref 249]) (pc' := 6) hk (.bipush 26) 2 rfl rfl rfl ?_
  refine ev_ls (L' := [some (.ref 247), some (.int a1), some (.int a2)]) (st' := [.int a1, .int 26, .ref 249]) (pc' := 7) hk (.iload_n 1) 1 rfl rfl rfl rfl ?_
  refine ev_op (st' := [.int (26 + a1), .ref 249]) (pc' := 8) hk (.iadd) 1 rfl rfl rfl ?_
  refine ev_op (st' := [.int (26 + a1), .ref 249, .int (26 + a1), .ref 249]) (pc' := 9) hk (.dup2) 1 rfl rfl rfl ?_
  obtain ⟨v6, hv6, hx⟩ := bnd_some hx
  refine ev_ial hv6 10 hk rfl lk_m249 rfl ?_
  refine ev_ls (L' := [some (.ref 247), some (.int a1), some (.int a2)]) (st' := [.int a2, .int v6, .int (26 + a1), .ref 249]) (pc' := 11) hk (.iload_n 2) 1 rfl rfl rfl rfl ?_
  refine ev_op (st' := [.int (v6 + a2), .int (26 + a1), .ref 249]) (pc' := 12) hk (.iadd) 1 rfl rfl rfl ?_
  obtain ⟨A7, hA7, hx⟩ := bnd_some hx
  obtain ⟨M8, hM8, hx⟩ := bnd_some hx
  have hM8 := Option.some.inj hM8
  refine ev_ias hA7 13 hk rfl lk_m249 (sa_m249 hM8) rfl ?_
  refine ev_ls (L' := [some (.ref 247), some (.int a1), some (.int a2)]) (st' := [.ref 247]) (pc' := 14) hk (.aload_n 0) 1 rfl rfl rfl rfl ?_
  refine ev_gf (.ref 249) 17 hk rfl rfl lk_model rfl rfl ?_
  refine ev_op (st' := [.int 3, .ref 249]) (pc' := 18) hk (.iconst 3) 1 rfl rfl rfl ?_
  refine ev_op (st' := [.int 3, .ref 249, .int 3, .ref 249]) (pc' := 19) hk (.dup2) 1 rfl rfl rfl ?_
  refine ev_ial (v := ((mA M8 249) 3)) rfl 20 hk rfl lk_m249 rfl ?_
  refine ev_ls (L' := [some (.ref 247), some (.int a1), some (.int a2)]) (st' := [.int a2, .int ((mA M8 249) 3), .int 3, .ref 249]) (pc' := 21) hk (.iload_n 2) 1 rfl rfl rfl rfl ?_
  refine ev_op (st' := [.int (((mA M8 249) 3) - a2), .int 3, .ref 249]) (pc' := 22) hk (.isub) 1 rfl rfl rfl ?_
  obtain ⟨M9, hM9, hx⟩ := bnd_some hx
  have hM9 := Option.some.inj hM9
  refine ev_ias (A := (upd (mA M8 249) 3 (((mA M8 249) 3) - a2))) rfl 23 hk rfl lk_m249 (sa_m249 hM9) rfl ?_
  refine ev_ls (L' := [some (.ref 247), some (.int a1), some (.int a2)]) (st' := [.ref 247]) (pc' := 24) hk (.aload_n 0) 1 rfl rfl rfl rfl ?_
  refine ev_gf (.ref 249) 27 hk rfl rfl lk_model rfl rfl ?_
  refine ev_op (st' := [.int 26, .ref 249]) (pc' := 29) hk (.bipush 26) 2 rfl rfl rfl ?_
  refine ev_ls (L' := [some (.ref 247), some (.int a1), some (.int a2)]) (st' := [.int a1, .int 26, .ref 249]) (pc' := 30) hk (.iload_n 1) 1 rfl rfl rfl rfl ?_
  refine ev_op (st' := [.int (26 + a1), .ref 249]) (pc' := 31) hk (.iadd) 1 rfl rfl rfl ?_
  obtain ⟨v10, hv10, hx⟩ := bnd_some hx
  refine ev_ial hv10 32 hk rfl lk_m249 rfl ?_
  cases hx
  obtain rfl := hM
  exact ev_retI hk rfl rfl
set_option maxRecDepth 2000 in
theorem rM_sew {S : Nat} {xs : Nat → Int32} {I : zI} {C : zC} {Y : Nat → Int32} {Γ : Nat → zG} {D : zD} {O : Nat → Int32} {M : zM} {ou : Nat → Int64} {od : Nat → UInt64} {j : Nat} {a1 : Int32} {a2 : Int32} {X : Int32 × zM}   (hx : fM_sew M a1 a2 = some X) : Ev S xs 162 0 [some (.ref 247), some (.int a1), some (.int a2)] [] (zH I C Y Γ D O M ou od j) (((.inl (some (.int X.1))), (zH I C Y Γ D O X.2 ou od j)) : (Option Value ⊕ String) × px_H) := by
  generalize hM : (((.inl (some (.int X.1))), (zH I C Y Γ D O X.2 ou od j)) : (Option Value ⊕ String) × px_H) = y
  replace hM := hM.symm
  have hk : pt_mt[162]? = some pt_r162 := rfl
  unfold fM_sew at hx
  refine ev_ls (L' := [some (.ref 247), some (.int a1), some (.int a2)]) (st' := [.ref 247]) (pc' := 1) hk (.aload_n 0) 1 rfl rfl rfl rfl ?_
  refine ev_ls (L' := [some (.ref 247), some (.int a1), some (.int a2)]) (st' := [.ref 247, .ref 247]) (pc' := 2) hk (.aload_n 0) 1 rfl rfl rfl rfl ?_
  refine ev_ls (L' := [some (.ref 247), some (.int a1), some (.int a2)]) (st' := [.int a1, .ref 247, .ref 247]) (pc' := 3) hk (.iload_n 1) 1 rfl rfl rfl rfl ?_
  refine ev_cv 85 1 [.int (b2i (fM_isGore M a1)), .ref 247] 6 hk rfl rfl rfl rfl lk_model rfl rfl rfl (rM_isGore rfl) rfl rfl rfl rfl ?_
  refine ev_ls (L' := [some (.ref 247), some (.int a1), some (.int a2)]) (st' := [.int a2, .int (b2i (fM_isGore M a1)), .ref 247]) (pc' := 7) hk (.iload_n 2) 1 rfl rfl rfl rfl ?_
  refine ev_cs 24 1 [.int (b2i (fM_areStitches a2)), .int (b2i (fM_isGore M a1)), .ref 247] 10 hk rfl rfl (by decide) rfl rfl rfl (rM_areStitches rfl) rfl rfl rfl rfl ?_
  refine ev_ls (L' := [some (.ref 247), some (.int a1), some (.int a2)]) (st' := [.ref 247, .int (b2i (fM_areStitches a2)), .int (b2i (fM_isGore M a1)), .ref 247]) (pc' := 11) hk (.aload_n 0) 1 rfl rfl rfl rfl ?_
  refine ev_ls (L' := [some (.ref 247), some (.int a1), some (.int a2)]) (st' := [.int a1, .ref 247, .int (b2i (fM_areStitches a2)), .int (b2i (fM_isGore M a1)), .ref 247]) (pc' := 12) hk (.iload_n 1) 1 rfl rfl rfl rfl ?_
  refine ev_ls (L' := [some (.ref 247), some (.int a1), some (.int a2)]) (st' := [.int a2, .int a1, .ref 247, .int (b2i (fM_areStitches a2)), .int (b2i (fM_isGore M a1)), .ref 247]) (pc' := 13) hk (.iload_n 2) 1 rfl rfl rfl rfl ?_
  obtain ⟨v1, hc2, hx⟩ := bnd_some hx
  refine ev_cv 132 2 [.int (b2i v1), .int (b2i (fM_areStitches a2)), .int (b2i (fM_isGore M a1)), .ref 247] 16 hk rfl rfl rfl rfl lk_model rfl rfl rfl (rM_maySew hc2) rfl rfl rfl rfl ?_
  obtain ⟨v4, M3, hc5, hx⟩ := bnd2_some hx
  refine ev_cv 62 3 [.int (b2i v4)] 19 hk rfl rfl rfl rfl lk_model rfl rfl rfl (rM_goesThree hc5) rfl rfl rfl rfl ?_
  refine ev_d1 24 22 hk rfl rfl rfl rfl (px_bne hx (fun hc hx => ?_) (fun hc hx => ?_))
  · refine ev_ls (L' := [some (.ref 247), some (.int a1), some (.int a2)]) (st' := [.ref 247]) (pc' := 25) hk (.aload_n 0) 1 rfl rfl rfl rfl ?_
    obtain ⟨M6, hc7, hx⟩ := bnd_some hx
    refine ev_cv 117 0 [] 28 hk rfl rfl rfl rfl lk_model rfl rfl rfl (rM_laysAside hc7) rfl rfl rfl rfl ?_
    refine ev_ls (L' := [some (.ref 247), some (.int a1), some (.int a2)]) (st' := [.ref 247]) (pc' := 29) hk (.aload_n 0) 1 rfl rfl rfl rfl ?_
    refine ev_ls (L' := [some (.ref 247), some (.int a1), some (.int a2)]) (st' := [.ref 247, .ref 247]) (pc' := 30) hk (.aload_n 0) 1 rfl rfl rfl rfl ?_
    refine ev_ls (L' := [some (.ref 247), some (.int a1), some (.int a2)]) (st' := [.int a1, .ref 247, .ref 247]) (pc' := 31) hk (.iload_n 1) 1 rfl rfl rfl rfl ?_
    refine ev_ls (L' := [some (.ref 247), some (.int a1), some (.int a2)]) (st' := [.int a2, .int a1, .ref 247, .ref 247]) (pc' := 32) hk (.iload_n 2) 1 rfl rfl rfl rfl ?_
    obtain ⟨v9, M8, hc10, hx⟩ := bnd2_some hx
    refine ev_cv 164 2 [.int v9, .ref 247] 35 hk rfl rfl rfl rfl lk_model rfl rfl rfl (rM_sews hc10) rfl rfl rfl rfl ?_
    obtain ⟨v12, M11, hc13, hx⟩ := bnd2_some hx
    refine ev_cv 105 1 [.int v12] 38 hk rfl rfl rfl rfl lk_model rfl rfl rfl (rM_kept hc13) rfl rfl rfl rfl ?_
    cases hx
    obtain rfl := hM
    exact ev_retI hk rfl rfl
  · refine ev_op (st' := [.int 0]) (pc' := 23) hk (.iconst 0) 1 rfl rfl rfl ?_
    cases hx
    obtain rfl := hM
    exact ev_retI hk rfl rfl
set_option maxRecDepth 2000 in
theorem rX_isMeridian {S : Nat} {xs : Nat → Int32} {I : zI} {C : zC} {Y : Nat → Int32} {Γ : Nat → zG} {D : zD} {O : Nat → Int32} {M : zM} {ou : Nat → Int64} {od : Nat → UInt64} {j : Nat} {a0 : Int32} {X : Bool}   (hx : fX_isMeridian a0 = X) : Ev S xs 324 0 [some (.int a0)] [] (zH I C Y Γ D O M ou od j) (((.inl (some (.int (b2i X)))), (zH I C Y Γ D O M ou od j)) : (Option Value ⊕ String) × px_H) := by
  generalize hM : (((.inl (some (.int (b2i X)))), (zH I C Y Γ D O M ou od j)) : (Option Value ⊕ String) × px_H) = y
  replace hM := hM.symm
  have hk : pt_mt[324]? = some pt_r324 := rfl
  unfold fX_isMeridian at hx
  refine ev_ls (L' := [some (.int a0)]) (st' := [.int a0]) (pc' := 1) hk (.iload_n 0) 1 rfl rfl rfl rfl ?_
  refine ev_d1 15 4 hk rfl rfl rfl rfl (px_clt hx (fun hc hx => ?_) (fun hc hx => ?_))
  · refine ev_op (st' := [.int 0]) (pc' := 16) hk (.iconst 0) 1 rfl rfl rfl ?_
    cases hx
    obtain rfl := hM
    exact ev_retZ false rfl hk rfl rfl
  · refine ev_ls (L' := [some (.int a0)]) (st' := [.int a0]) (pc' := 5) hk (.iload_n 0) 1 rfl rfl rfl rfl ?_
    refine ev_op (st' := [.int 360, .int a0]) (pc' := 8) hk (.sipush 360) 3 rfl rfl rfl ?_
    refine ev_d2 15 11 hk rfl rfl rfl rfl (px_cge hx (fun hc hx => ?_) (fun hc hx => ?_))
    · refine ev_op (st' := [.int 0]) (pc' := 16) hk (.iconst 0) 1 rfl rfl rfl ?_
      cases hx
      obtain rfl := hM
      exact ev_retZ false rfl hk rfl rfl
    · refine ev_op (st' := [.int 1]) (pc' := 12) hk (.iconst 1) 1 rfl rfl rfl ?_
      refine ev_jp (pc' := 16) (st' := [.int 1]) hk (.goto 4) 3 rfl rfl rfl rfl rfl ?_
      cases hx
      obtain rfl := hM
      exact ev_retZ true rfl hk rfl rfl
set_option maxRecDepth 2000 in
theorem rJ_abs_0f7a4 {S : Nat} {xs : Nat → Int32} {I : zI} {C : zC} {Y : Nat → Int32} {Γ : Nat → zG} {D : zD} {O : Nat → Int32} {M : zM} {ou : Nat → Int64} {od : Nat → UInt64} {j : Nat} {a0 : Int32} {X : Int32}   (hx : fJ_abs_0f7a4 a0 = X) : Ev S xs 0 0 [some (.int a0)] [] (zH I C Y Γ D O M ou od j) (((.inl (some (.int X))), (zH I C Y Γ D O M ou od j)) : (Option Value ⊕ String) × px_H) := by
  generalize hM : (((.inl (some (.int X))), (zH I C Y Γ D O M ou od j)) : (Option Value ⊕ String) × px_H) = y
  replace hM := hM.symm
  have hk : pt_mt[0]? = some pt_r0 := rfl
  unfold fJ_abs_0f7a4 at hx
  refine ev_ls (L' := [some (.int a0)]) (st' := [.int a0]) (pc' := 1) hk (.iload_n 0) 1 rfl rfl rfl rfl ?_
  refine ev_d1 9 4 hk rfl rfl rfl rfl (px_cge hx (fun hc hx => ?_) (fun hc hx => ?_))
  · refine ev_ls (L' := [some (.int a0)]) (st' := [.int a0]) (pc' := 10) hk (.iload_n 0) 1 rfl rfl rfl rfl ?_
    cases hx
    obtain rfl := hM
    exact ev_retI hk rfl rfl
  · refine ev_ls (L' := [some (.int a0)]) (st' := [.int a0]) (pc' := 5) hk (.iload_n 0) 1 rfl rfl rfl rfl ?_
    refine ev_op (st' := [.int (-a0)]) (pc' := 6) hk (.ineg) 1 rfl rfl rfl ?_
    refine ev_jp (pc' := 10) (st' := [.int (-a0)]) hk (.goto 4) 3 rfl rfl rfl rfl rfl ?_
    cases hx
    obtain rfl := hM
    exact ev_retI hk rfl rfl
set_option maxRecDepth 2000 in
theorem rG_isWide {S : Nat} {xs : Nat → Int32} {I : zI} {C : zC} {Y : Nat → Int32} {Γ : Nat → zG} {D : zD} {O : Nat → Int32} {M : zM} {ou : Nat → Int64} {od : Nat → UInt64} {j : Nat} {a0 : Int32} {a1 : Int32} {X : Bool}   (hx : fG_isWide a0 a1 = X) : Ev S xs 230 0 [some (.int a0), some (.int a1)] [] (zH I C Y Γ D O M ou od j) (((.inl (some (.int (b2i X)))), (zH I C Y Γ D O M ou od j)) : (Option Value ⊕ String) × px_H) := by
  generalize hM : (((.inl (some (.int (b2i X)))), (zH I C Y Γ D O M ou od j)) : (Option Value ⊕ String) × px_H) = y
  replace hM := hM.symm
  have hk : pt_mt[230]? = some pt_r230 := rfl
  unfold fG_isWide at hx
  refine ev_ls (L' := [some (.int a0), some (.int a1)]) (st' := [.int a0]) (pc' := 1) hk (.iload_n 0) 1 rfl rfl rfl rfl ?_
  refine ev_ls (L' := [some (.int a0), some (.int a1)]) (st' := [.int a1, .int a0]) (pc' := 2) hk (.iload_n 1) 1 rfl rfl rfl rfl ?_
  refine ev_op (st' := [.int (a0 - a1)]) (pc' := 3) hk (.isub) 1 rfl rfl rfl ?_
  refine ev_cs 0 1 [.int (fJ_abs_0f7a4 (a0 - a1))] 6 hk rfl rfl (by decide) rfl rfl rfl (rJ_abs_0f7a4 rfl) rfl rfl rfl rfl ?_
  refine ev_op (st' := [.int 60, .int (fJ_abs_0f7a4 (a0 - a1))]) (pc' := 8) hk (.bipush 60) 2 rfl rfl rfl ?_
  refine ev_d2 15 11 hk rfl rfl rfl rfl (px_cle hx (fun hc hx => ?_) (fun hc hx => ?_))
  · refine ev_op (st' := [.int 0]) (pc' := 16) hk (.iconst 0) 1 rfl rfl rfl ?_
    cases hx
    obtain rfl := hM
    exact ev_retZ false rfl hk rfl rfl
  · refine ev_op (st' := [.int 1]) (pc' := 12) hk (.iconst 1) 1 rfl rfl rfl ?_
    refine ev_jp (pc' := 16) (st' := [.int 1]) hk (.goto 4) 3 rfl rfl rfl rfl rfl ?_
    cases hx
    obtain rfl := hM
    exact ev_retZ true rfl hk rfl rfl
set_option maxRecDepth 2000 in
theorem rG_hemPrice {S : Nat} {xs : Nat → Int32} {I : zI} {C : zC} {Y : Nat → Int32} {Γ : Nat → zG} {D : zD} {O : Nat → Int32} {M : zM} {ou : Nat → Int64} {od : Nat → UInt64} {j : Nat} {g : Nat} {G : zG} {a1 : Int32} {a2 : Int32} {X : Int32}  (hg : isG g) (hx : fG_hemPrice G a1 a2 = some X) : Ev S xs 226 0 [some (.ref g), some (.int a1), some (.int a2)] [] (zH I C Y (gup Γ g G) D O M ou od j) (((.inl (some (.int X))), (zH I C Y (gup Γ g G) D O M ou od j)) : (Option Value ⊕ String) × px_H) := by
  generalize hM : (((.inl (some (.int X))), (zH I C Y (gup Γ g G) D O M ou od j)) : (Option Value ⊕ String) × px_H) = y
  replace hM := hM.symm
  have hk : pt_mt[226]? = some pt_r226 := rfl
  unfold fG_hemPrice at hx
  refine ev_ls (L' := [some (.ref g), some (.int a1), some (.int a2)]) (st' := [.int a2]) (pc' := 1) hk (.iload_n 2) 1 rfl rfl rfl rfl ?_
  refine ev_ls (L' := [some (.ref g), some (.int a1), some (.int a2)]) (st' := [.ref g, .int a2]) (pc' := 2) hk (.aload_n 0) 1 rfl rfl rfl rfl ?_
  refine ev_gf (.ref (g + 5)) 5 hk rfl rfl (lk_globe hg gup_same) rfl rfl ?_
  refine ev_ls (L' := [some (.ref g), some (.int a1), some (.int a2)]) (st' := [.int a1, .ref (g + 5), .int a2]) (pc' := 6) hk (.iload_n 1) 1 rfl rfl rfl rfl ?_
  obtain ⟨v2, hv2, hx⟩ := bnd_some hx
  refine ev_ial hv2 7 hk rfl (lk_a5 hg gup_same) rfl ?_
  refine ev_op (st' := [.int (a2 - v2)]) (pc' := 8) hk (.isub) 1 rfl rfl rfl ?_
  refine ev_cs 0 1 [.int (fJ_abs_0f7a4 (a2 - v2))] 11 hk rfl rfl (by decide) rfl rfl rfl (rJ_abs_0f7a4 rfl) rfl rfl rfl rfl ?_
  refine ev_op (st' := [.int 4, .int (fJ_abs_0f7a4 (a2 - v2))]) (pc' := 12) hk (.iconst 4) 1 rfl rfl rfl ?_
  refine ev_op (st' := [.int ((fJ_abs_0f7a4 (a2 - v2)) + 4)]) (pc' := 13) hk (.iadd) 1 rfl rfl rfl ?_
  refine ev_op (st' := [.int 5, .int ((fJ_abs_0f7a4 (a2 - v2)) + 4)]) (pc' := 14) hk (.iconst 5) 1 rfl rfl rfl ?_
  refine ev_div 15 hk rfl (by decide) rfl ?_
  cases hx
  obtain rfl := hM
  exact ev_retI hk rfl rfl
def qG_hemHindrance_60 (S : Nat) (xs : Nat → Int32) (I : zI) (C : zC) (Y : Nat → Int32) (Γ : Nat → zG) (D : zD) (O : Nat → Int32) (M : zM) (ou : Nat → Int64) (od : Nat → UInt64) (j : Nat) (g : Nat) (G : zG) (a1 : Int32) (a2 : Int32) (y : (Option Value ⊕ String) × px_H) (s : Int32) : Prop := Ev S xs 225 60 [some (.ref g), some (.int a1), some (.int a2), some (.int s)] [] (zH I C Y (gup Γ g G) D O M ou od j) y
set_option maxRecDepth 4000 in
theorem rG_hemHindrance_b60 {S : Nat} {xs : Nat → Int32} {I : zI} {C : zC} {Y : Nat → Int32} {Γ : Nat → zG} {D : zD} {O : Nat → Int32} {M : zM} {ou : Nat → Int64} {od : Nat → UInt64} {j : Nat} {g : Nat} {G : zG} {a1 : Int32} {a2 : Int32} {y : (Option Value ⊕ String) × px_H} {s : Int32} {x : (Int32) ⊕ (Int32)} (hg : isG g) (hx : fG_hemHindrance_b60 G a1 a2 s = some x) (hM : (Sum.elim (qG_hemHindrance_60 S xs I C Y Γ D O M ou od j g G a1 a2 y) (fun X : Int32 => y = (((.inl (some (.int X))), (zH I C Y (gup Γ g G) D O M ou od j)) : (Option Value ⊕ String) × px_H))) x) : qG_hemHindrance_60 S xs I C Y Γ D O M ou od j g G a1 a2 y s := by
  revert hx
  generalize s = a3
  intro hx
  have hk : pt_mt[225]? = some pt_r225 := rfl
  unfold fG_hemHindrance_b60 at hx
  try dsimp only at hx
  refine ev_ls (L' := [some (.ref g), some (.int a1), some (.int a2), some (.int a3)]) (st' := [.int a3]) (pc' := 61) hk (.iload_n 3) 1 rfl rfl rfl rfl ?_
  refine ev_ls (L' := [some (.ref g), some (.int a1), some (.int a2), some (.int a3)]) (st' := [.ref g, .int a3]) (pc' := 62) hk (.aload_n 0) 1 rfl rfl rfl rfl ?_
  refine ev_gf (.int (gF G 0 6)) 65 hk rfl rfl (lk_globe hg gup_same) rfl rfl ?_
  refine ev_d2 102 68 hk rfl rfl rfl rfl (px_cge hx (fun hc hx => ?_) (fun hc hx => ?_))
  · refine ev_ls (L' := [some (.ref g), some (.int a1), some (.int a2), some (.int a3)]) (st' := [.ref g]) (pc' := 103) hk (.aload_n 0) 1 rfl rfl rfl rfl ?_
    refine ev_gf (.int (gF G 0 3)) 106 hk rfl rfl (lk_globe hg gup_same) rfl rfl ?_
    refine ev_ls (L' := [some (.ref g), some (.int a1), some (.int a2), some (.int a3)]) (st' := [.ref g, .int (gF G 0 3)]) (pc' := 107) hk (.aload_n 0) 1 rfl rfl rfl rfl ?_
    refine ev_ls (L' := [some (.ref g), some (.int a1), some (.int a2), some (.int a3)]) (st' := [.int a1, .ref g, .int (gF G 0 3)]) (pc' := 108) hk (.iload_n 1) 1 rfl rfl rfl rfl ?_
    refine ev_ls (L' := [some (.ref g), some (.int a1), some (.int a2), some (.int a3)]) (st' := [.int a2, .int a1, .ref g, .int (gF G 0 3)]) (pc' := 109) hk (.iload_n 2) 1 rfl rfl rfl rfl ?_
    obtain ⟨v9, hc10, hx⟩ := bnd_some hx
    refine ev_cv 226 2 [.int v9, .int (gF G 0 3)] 112 hk rfl rfl rfl rfl (lk_globe hg gup_same) rfl rfl rfl (rG_hemPrice hg hc10) rfl rfl rfl rfl ?_
    refine ev_d2 119 115 hk rfl rfl rfl rfl (px_cge hx (fun hc hx => ?_) (fun hc hx => ?_))
    · refine ev_op (st' := [.int 0]) (pc' := 120) hk (.iconst 0) 1 rfl rfl rfl ?_
      cases hx
      obtain rfl := hM
      exact ev_retI hk rfl rfl
    · refine ev_op (st' := [.int 4]) (pc' := 116) hk (.iconst 4) 1 rfl rfl rfl ?_
      refine ev_jp (pc' := 120) (st' := [.int 4]) hk (.goto 4) 3 rfl rfl rfl rfl rfl ?_
      cases hx
      obtain rfl := hM
      exact ev_retI hk rfl rfl
  · refine ev_ls (L' := [some (.ref g), some (.int a1), some (.int a2), some (.int a3)]) (st' := [.ref g]) (pc' := 69) hk (.aload_n 0) 1 rfl rfl rfl rfl ?_
    refine ev_gf (.ref (g + 17)) 72 hk rfl rfl (lk_globe hg gup_same) rfl rfl ?_
    refine ev_ls (L' := [some (.ref g), some (.int a1), some (.int a2), some (.int a3)]) (st' := [.int a3, .ref (g + 17)]) (pc' := 73) hk (.iload_n 3) 1 rfl rfl rfl rfl ?_
    obtain ⟨p11, hp11, hx⟩ := bnd_some hx
    have hpp11 := rix_lt hp11
    refine ev_aal (g + (18 + p11)) hp11 74 hk rfl (lk_labels hg gup_same) (by decide) (lk_la hpp11) rfl ?_
    refine ev_gf (.int (gF G (18 + p11) 0)) 77 hk rfl rfl (lk_label hg hpp11 gup_same) rfl rfl ?_
    refine ev_ls (L' := [some (.ref g), some (.int a1), some (.int a2), some (.int a3)]) (st' := [.int a1, .int (gF G (18 + p11) 0)]) (pc' := 78) hk (.iload_n 1) 1 rfl rfl rfl rfl ?_
    refine ev_d2 96 81 hk rfl rfl rfl rfl (px_cne hx (fun hc hx => ?_) (fun hc hx => ?_))
    · refine ev_ls (L' := [some (.ref g), some (.int a1), some (.int a2), some (.int (a3 + 1))]) (st' := []) (pc' := 99) hk (.iinc 3 1) 3 rfl rfl rfl rfl ?_
      refine ev_jp (pc' := 60) (st' := []) hk (.goto (-39)) 3 rfl rfl rfl rfl rfl ?_
      cases hx
      exact hM
    · refine ev_ls (L' := [some (.ref g), some (.int a1), some (.int a2), some (.int a3)]) (st' := [.ref g]) (pc' := 82) hk (.aload_n 0) 1 rfl rfl rfl rfl ?_
      refine ev_gf (.ref (g + 17)) 85 hk rfl rfl (lk_globe hg gup_same) rfl rfl ?_
      refine ev_ls (L' := [some (.ref g), some (.int a1), some (.int a2), some (.int a3)]) (st' := [.int a3, .ref (g + 17)]) (pc' := 86) hk (.iload_n 3) 1 rfl rfl rfl rfl ?_
      obtain ⟨p12, hp12, hx⟩ := bnd_some hx
      have hpp12 := rix_lt hp12
      refine ev_aal (g + (18 + p12)) hp12 87 hk rfl (lk_labels hg gup_same) (by decide) (lk_la hpp12) rfl ?_
      refine ev_ls (L' := [some (.ref g), some (.int a1), some (.int a2), some (.int a3)]) (st' := [.int a2, .ref (g + (18 + p12))]) (pc' := 88) hk (.iload_n 2) 1 rfl rfl rfl rfl ?_
      refine ev_cv 281 1 [.int (b2i (fL_crosses G p12 a2))] 91 hk rfl rfl rfl rfl (lk_label hg hpp12 gup_same) rfl rfl rfl (rL_crosses hg hpp12 rfl) rfl rfl rfl rfl ?_
      refine ev_d1 96 94 hk rfl rfl rfl rfl (px_beq hx (fun hc hx => ?_) (fun hc hx => ?_))
      · refine ev_ls (L' := [some (.ref g), some (.int a1), some (.int a2), some (.int (a3 + 1))]) (st' := []) (pc' := 99) hk (.iinc 3 1) 3 rfl rfl rfl rfl ?_
        refine ev_jp (pc' := 60) (st' := []) hk (.goto (-39)) 3 rfl rfl rfl rfl rfl ?_
        cases hx
        exact hM
      · refine ev_op (st' := [.int 3]) (pc' := 95) hk (.iconst 3) 1 rfl rfl rfl ?_
        cases hx
        obtain rfl := hM
        exact ev_retI hk rfl rfl
set_option maxRecDepth 4000 in
theorem rG_hemHindrance_j58 {S : Nat} {xs : Nat → Int32} {I : zI} {C : zC} {Y : Nat → Int32} {Γ : Nat → zG} {D : zD} {O : Nat → Int32} {M : zM} {ou : Nat → Int64} {od : Nat → UInt64} {j : Nat} {g : Nat} {G : zG} {a1 : Int32} {a2 : Int32} {y : (Option Value ⊕ String) × px_H} {x : Int32} (hg : isG g) (hx : fG_hemHindrance_j58 G a1 a2 = some x) (hM : (fun X : Int32 => y = (((.inl (some (.int X))), (zH I C Y (gup Γ g G) D O M ou od j)) : (Option Value ⊕ String) × px_H)) x)  : Ev S xs 225 58 [some (.ref g), some (.int a1), some (.int a2), none] [] (zH I C Y (gup Γ g G) D O M ou od j) y := by
  have hk : pt_mt[225]? = some pt_r225 := rfl
  unfold fG_hemHindrance_j58 at hx
  refine ev_op (st' := [.int 0]) (pc' := 59) hk (.iconst 0) 1 rfl rfl rfl ?_
  refine ev_ls (L' := [some (.ref g), some (.int a1), some (.int a2), some (.int 0)]) (st' := []) (pc' := 60) hk (.istore_n 3) 1 rfl rfl rfl rfl ?_
  exact ev_iter (qG_hemHindrance_60 S xs I C Y Γ D O M ou od j g G a1 a2 _) (fun X : Int32 => y = (((.inl (some (.int X))), (zH I C Y (gup Γ g G) D O M ou od j)) : (Option Value ⊕ String) × px_H)) (fun s x hb hM => rG_hemHindrance_b60 hg hb hM) fu _ _ hx hM 
set_option maxRecDepth 4000 in
theorem rG_hemHindrance_j35 {S : Nat} {xs : Nat → Int32} {I : zI} {C : zC} {Y : Nat → Int32} {Γ : Nat → zG} {D : zD} {O : Nat → Int32} {M : zM} {ou : Nat → Int64} {od : Nat → UInt64} {j : Nat} {g : Nat} {G : zG} {a1 : Int32} {a2 : Int32} {y : (Option Value ⊕ String) × px_H} {x : Int32} (hg : isG g) (hx : fG_hemHindrance_j35 G a1 a2 = some x) (hM : (fun X : Int32 => y = (((.inl (some (.int X))), (zH I C Y (gup Γ g G) D O M ou od j)) : (Option Value ⊕ String) × px_H)) x)  : Ev S xs 225 35 [some (.ref g), some (.int a1), some (.int a2), none] [] (zH I C Y (gup Γ g G) D O M ou od j) y := by
  have hk : pt_mt[225]? = some pt_r225 := rfl
  unfold fG_hemHindrance_j35 at hx
  refine ev_ls (L' := [some (.ref g), some (.int a1), some (.int a2), none]) (st' := [.int a1]) (pc' := 36) hk (.iload_n 1) 1 rfl rfl rfl rfl ?_
  refine ev_op (st' := [.int 8, .int a1]) (pc' := 38) hk (.bipush 8) 2 rfl rfl rfl ?_
  refine ev_d2 58 41 hk rfl rfl rfl rfl (px_cge hx (fun hc hx => ?_) (fun hc hx => ?_))
  · exact rG_hemHindrance_j58 hg hx hM 
  · refine ev_ls (L' := [some (.ref g), some (.int a1), some (.int a2), none]) (st' := [.ref g]) (pc' := 42) hk (.aload_n 0) 1 rfl rfl rfl rfl ?_
    refine ev_gf (.ref (g + 5)) 45 hk rfl rfl (lk_globe hg gup_same) rfl rfl ?_
    refine ev_ls (L' := [some (.ref g), some (.int a1), some (.int a2), none]) (st' := [.int a1, .ref (g + 5)]) (pc' := 46) hk (.iload_n 1) 1 rfl rfl rfl rfl ?_
    refine ev_op (st' := [.int 1, .int a1, .ref (g + 5)]) (pc' := 47) hk (.iconst 1) 1 rfl rfl rfl ?_
    refine ev_op (st' := [.int (a1 + 1), .ref (g + 5)]) (pc' := 48) hk (.iadd) 1 rfl rfl rfl ?_
    obtain ⟨v8, hv8, hx⟩ := bnd_some hx
    refine ev_ial hv8 49 hk rfl (lk_a5 hg gup_same) rfl ?_
    refine ev_ls (L' := [some (.ref g), some (.int a1), some (.int a2), none]) (st' := [.int a2, .int v8]) (pc' := 50) hk (.iload_n 2) 1 rfl rfl rfl rfl ?_
    refine ev_cs 230 2 [.int (b2i (fG_isWide v8 a2))] 53 hk rfl rfl (by decide) rfl rfl rfl (rG_isWide rfl) rfl rfl rfl rfl ?_
    refine ev_d1 58 56 hk rfl rfl rfl rfl (px_beq hx (fun hc hx => ?_) (fun hc hx => ?_))
    · exact rG_hemHindrance_j58 hg hx hM 
    · refine ev_op (st' := [.int 2]) (pc' := 57) hk (.iconst 2) 1 rfl rfl rfl ?_
      cases hx
      obtain rfl := hM
      exact ev_retI hk rfl rfl
set_option maxRecDepth 2000 in
theorem rG_hemHindrance {S : Nat} {xs : Nat → Int32} {I : zI} {C : zC} {Y : Nat → Int32} {Γ : Nat → zG} {D : zD} {O : Nat → Int32} {M : zM} {ou : Nat → Int64} {od : Nat → UInt64} {j : Nat} {g : Nat} {G : zG} {a1 : Int32} {a2 : Int32} {X : Int32}  (hg : isG g) (hx : fG_hemHindrance G a1 a2 = some X) : Ev S xs 225 0 [some (.ref g), some (.int a1), some (.int a2), none] [] (zH I C Y (gup Γ g G) D O M ou od j) (((.inl (some (.int X))), (zH I C Y (gup Γ g G) D O M ou od j)) : (Option Value ⊕ String) × px_H) := by
  generalize hM : (((.inl (some (.int X))), (zH I C Y (gup Γ g G) D O M ou od j)) : (Option Value ⊕ String) × px_H) = y
  replace hM := hM.symm
  have hk : pt_mt[225]? = some pt_r225 := rfl
  unfold fG_hemHindrance at hx
  refine ev_ls (L' := [some (.ref g), some (.int a1), some (.int a2), none]) (st' := [.int a2]) (pc' := 1) hk (.iload_n 2) 1 rfl rfl rfl rfl ?_
  refine ev_ls (L' := [some (.ref g), some (.int a1), some (.int a2), none]) (st' := [.ref g, .int a2]) (pc' := 2) hk (.aload_n 0) 1 rfl rfl rfl rfl ?_
  refine ev_gf (.ref (g + 5)) 5 hk rfl rfl (lk_globe hg gup_same) rfl rfl ?_
  refine ev_ls (L' := [some (.ref g), some (.int a1), some (.int a2), none]) (st' := [.int a1, .ref (g + 5), .int a2]) (pc' := 6) hk (.iload_n 1) 1 rfl rfl rfl rfl ?_
  obtain ⟨v13, hv13, hx⟩ := bnd_some hx
  refine ev_ial hv13 7 hk rfl (lk_a5 hg gup_same) rfl ?_
  refine ev_d2 14 10 hk rfl rfl rfl rfl (px_ceq hx (fun hc hx => ?_) (fun hc hx => ?_))
  · refine ev_op (st' := [.int 1]) (pc' := 15) hk (.iconst 1) 1 rfl rfl rfl ?_
    cases hx
    obtain rfl := hM
    exact ev_retI hk rfl rfl
  · refine ev_ls (L' := [some (.ref g), some (.int a1), some (.int a2), none]) (st' := [.int a2]) (pc' := 11) hk (.iload_n 2) 1 rfl rfl rfl rfl ?_
    refine ev_d1 16 14 hk rfl rfl rfl rfl (px_cne hx (fun hc hx => ?_) (fun hc hx => ?_))
    · refine ev_ls (L' := [some (.ref g), some (.int a1), some (.int a2), none]) (st' := [.int a1]) (pc' := 17) hk (.iload_n 1) 1 rfl rfl rfl rfl ?_
      refine ev_d1 35 20 hk rfl rfl rfl rfl (px_cle hx (fun hc hx => ?_) (fun hc hx => ?_))
      · exact rG_hemHindrance_j35 hg hx hM 
      · refine ev_ls (L' := [some (.ref g), some (.int a1), some (.int a2), none]) (st' := [.ref g]) (pc' := 21) hk (.aload_n 0) 1 rfl rfl rfl rfl ?_
        refine ev_gf (.ref (g + 5)) 24 hk rfl rfl (lk_globe hg gup_same) rfl rfl ?_
        refine ev_ls (L' := [some (.ref g), some (.int a1), some (.int a2), none]) (st' := [.int a1, .ref (g + 5)]) (pc' := 25) hk (.iload_n 1) 1 rfl rfl rfl rfl ?_
        refine ev_op (st' := [.int 1, .int a1, .ref (g + 5)]) (pc' := 26) hk (.iconst 1) 1 rfl rfl rfl ?_
        refine ev_op (st' := [.int (a1 - 1), .ref (g + 5)]) (pc' := 27) hk (.isub) 1 rfl rfl rfl ?_
        obtain ⟨v14, hv14, hx⟩ := bnd_some hx
        refine ev_ial hv14 28 hk rfl (lk_a5 hg gup_same) rfl ?_
        refine ev_ls (L' := [some (.ref g), some (.int a1), some (.int a2), none]) (st' := [.int a2, .int v14]) (pc' := 29) hk (.iload_n 2) 1 rfl rfl rfl rfl ?_
        refine ev_cs 230 2 [.int (b2i (fG_isWide v14 a2))] 32 hk rfl rfl (by decide) rfl rfl rfl (rG_isWide rfl) rfl rfl rfl rfl ?_
        refine ev_d1 56 35 hk rfl rfl rfl rfl (px_bne hx (fun hc hx => ?_) (fun hc hx => ?_))
        · refine ev_op (st' := [.int 2]) (pc' := 57) hk (.iconst 2) 1 rfl rfl rfl ?_
          cases hx
          obtain rfl := hM
          exact ev_retI hk rfl rfl
        · exact rG_hemHindrance_j35 hg hx hM 
    · refine ev_op (st' := [.int 1]) (pc' := 15) hk (.iconst 1) 1 rfl rfl rfl ?_
      cases hx
      obtain rfl := hM
      exact ev_retI hk rfl rfl
set_option maxRecDepth 2000 in
theorem rG_hemRefusal {S : Nat} {xs : Nat → Int32} {I : zI} {C : zC} {Y : Nat → Int32} {Γ : Nat → zG} {D : zD} {O : Nat → Int32} {M : zM} {ou : Nat → Int64} {od : Nat → UInt64} {j : Nat} {g : Nat} {G : zG} {a1 : Int32} {a2 : Int32} {X : Int32}  (hg : isG g) (hx : fG_hemRefusal G a1 a2 = some X) : Ev S xs 227 0 [some (.ref g), some (.int a1), some (.int a2)] [] (zH I C Y (gup Γ g G) D O M ou od j) (((.inl (some (.int X))), (zH I C Y (gup Γ g G) D O M ou od j)) : (Option Value ⊕ String) × px_H) := by
  generalize hM : (((.inl (some (.int X))), (zH I C Y (gup Γ g G) D O M ou od j)) : (Option Value ⊕ String) × px_H) = y
  replace hM := hM.symm
  have hk : pt_mt[227]? = some pt_r227 := rfl
  unfold fG_hemRefusal at hx
  refine ev_ls (L' := [some (.ref g), some (.int a1), some (.int a2)]) (st' := [.int a1]) (pc' := 1) hk (.iload_n 1) 1 rfl rfl rfl rfl ?_
  refine ev_cs 321 1 [.int (b2i (fX_isBand a1))] 4 hk rfl rfl (by decide) rfl rfl rfl (rX_isBand rfl) rfl rfl rfl rfl ?_
  refine ev_d1 14 7 hk rfl rfl rfl rfl (px_beq hx (fun hc hx => ?_) (fun hc hx => ?_))
  · refine ev_op (st' := [.int 2]) (pc' := 15) hk (.iconst 2) 1 rfl rfl rfl ?_
    cases hx
    obtain rfl := hM
    exact ev_retI hk rfl rfl
  · refine ev_ls (L' := [some (.ref g), some (.int a1), some (.int a2)]) (st' := [.int a2]) (pc' := 8) hk (.iload_n 2) 1 rfl rfl rfl rfl ?_
    refine ev_cs 324 1 [.int (b2i (fX_isMeridian a2))] 11 hk rfl rfl (by decide) rfl rfl rfl (rX_isMeridian rfl) rfl rfl rfl rfl ?_
    refine ev_d1 16 14 hk rfl rfl rfl rfl (px_bne hx (fun hc hx => ?_) (fun hc hx => ?_))
    · refine ev_ls (L' := [some (.ref g), some (.int a1), some (.int a2)]) (st' := [.ref g]) (pc' := 17) hk (.aload_n 0) 1 rfl rfl rfl rfl ?_
      refine ev_ls (L' := [some (.ref g), some (.int a1), some (.int a2)]) (st' := [.int a1, .ref g]) (pc' := 18) hk (.iload_n 1) 1 rfl rfl rfl rfl ?_
      refine ev_ls (L' := [some (.ref g), some (.int a1), some (.int a2)]) (st' := [.int a2, .int a1, .ref g]) (pc' := 19) hk (.iload_n 2) 1 rfl rfl rfl rfl ?_
      obtain ⟨v1, hc2, hx⟩ := bnd_some hx
      refine ev_cv 225 2 [.int v1] 22 hk rfl rfl rfl rfl (lk_globe hg gup_same) rfl rfl rfl (rG_hemHindrance hg hc2) rfl rfl rfl rfl ?_
      refine ev_d1 29 25 hk rfl rfl rfl rfl (px_cne hx (fun hc hx => ?_) (fun hc hx => ?_))
      · refine ev_op (st' := [.int 3]) (pc' := 30) hk (.iconst 3) 1 rfl rfl rfl ?_
        cases hx
        obtain rfl := hM
        exact ev_retI hk rfl rfl
      · refine ev_op (st' := [.int 0]) (pc' := 26) hk (.iconst 0) 1 rfl rfl rfl ?_
        refine ev_jp (pc' := 30) (st' := [.int 0]) hk (.goto 4) 3 rfl rfl rfl rfl rfl ?_
        cases hx
        obtain rfl := hM
        exact ev_retI hk rfl rfl
    · refine ev_op (st' := [.int 2]) (pc' := 15) hk (.iconst 2) 1 rfl rfl rfl ?_
      cases hx
      obtain rfl := hM
      exact ev_retI hk rfl rfl
def qG_shiftHem_46 (S : Nat) (xs : Nat → Int32) (I : zI) (C : zC) (Y : Nat → Int32) (Γ : Nat → zG) (D : zD) (O : Nat → Int32) (M : zM) (ou : Nat → Int64) (od : Nat → UInt64) (j : Nat) (g : Nat) (a1 : Int32) (a2 : Int32) (a3 : Int32) (a4 : Int32) (a5 : Int32) (y : (Option Value ⊕ String) × px_H) (s : zG × Int32 × Int32) : Prop := ∀ (u8 : Option Value) (hu8 : px_cz u8 = true), Ev S xs 248 46 [some (.ref g), some (.int a1), some (.int a2), some (.int a3), some (.int a4), some (.int a5), some (.int s.2.1), some (.int s.2.2), u8] [] (zH I C Y (gup Γ g s.1) D O M ou od j) y
set_option maxRecDepth 4000 in
theorem rG_shiftHem_b46 {S : Nat} {xs : Nat → Int32} {I : zI} {C : zC} {Y : Nat → Int32} {Γ : Nat → zG} {D : zD} {O : Nat → Int32} {M : zM} {ou : Nat → Int64} {od : Nat → UInt64} {j : Nat} {g : Nat} {a1 : Int32} {a2 : Int32} {a3 : Int32} {a4 : Int32} {a5 : Int32} {y : (Option Value ⊕ String) × px_H} {s : zG × Int32 × Int32} {x : (zG × Int32 × Int32) ⊕ (Int32 × zG)} (hg : isG g) (hx : fG_shiftHem_b46 a1 a2 a3 a4 a5 s.1 s.2.1 s.2.2 = some x) (hM : (Sum.elim (qG_shiftHem_46 S xs I C Y Γ D O M ou od j g a1 a2 a3 a4 a5 y) (fun X : Int32 × zG => y = (((.inl (some (.int X.1))), (zH I C Y (gup Γ g X.2) D O M ou od j)) : (Option Value ⊕ String) × px_H))) x) : qG_shiftHem_46 S xs I C Y Γ D O M ou od j g a1 a2 a3 a4 a5 y s := by
  obtain ⟨G, a6, a7⟩ := s
  intro u8 hu8
  have hk : pt_mt[248]? = some pt_r248 := rfl
  unfold fG_shiftHem_b46 at hx
  try dsimp only at hx
  refine ev_ls (L' := [some (.ref g), some (.int a1), some (.int a2), some (.int a3), some (.int a4), some (.int a5), some (.int a6), some (.int a7), u8]) (st' := [.int a7]) (pc' := 48) hk (.iload 7) 2 rfl rfl rfl rfl ?_
  refine ev_ls (L' := [some (.ref g), some (.int a1), some (.int a2), some (.int a3), some (.int a4), some (.int a5), some (.int a6), some (.int a7), u8]) (st' := [.ref g, .int a7]) (pc' := 49) hk (.aload_n 0) 1 rfl rfl rfl rfl ?_
  refine ev_gf (.int (gF G 0 4)) 52 hk rfl rfl (lk_globe hg gup_same) rfl rfl ?_
  refine ev_d2 121 55 hk rfl rfl rfl rfl (px_cge hx (fun hc hx => ?_) (fun hc hx => ?_))
  · refine ev_ls (L' := [some (.ref g), some (.int a1), some (.int a2), some (.int a3), some (.int a4), some (.int a5), some (.int a6), some (.int a7), u8]) (st' := [.ref g]) (pc' := 122) hk (.aload_n 0) 1 rfl rfl rfl rfl ?_
    refine ev_op (st' := [.ref g, .ref g]) (pc' := 123) hk (.dup) 1 rfl rfl rfl ?_
    refine ev_gf (.int (gF G 0 3)) 126 hk rfl rfl (lk_globe hg gup_same) rfl rfl ?_
    refine ev_ls (L' := [some (.ref g), some (.int a1), some (.int a2), some (.int a3), some (.int a4), some (.int a5), some (.int a6), some (.int a7), u8]) (st' := [.ref g, .int (gF G 0 3), .ref g]) (pc' := 127) hk (.aload_n 0) 1 rfl rfl rfl rfl ?_
    refine ev_ls (L' := [some (.ref g), some (.int a1), some (.int a2), some (.int a3), some (.int a4), some (.int a5), some (.int a6), some (.int a7), u8]) (st' := [.int a1, .ref g, .int (gF G 0 3), .ref g]) (pc' := 128) hk (.iload_n 1) 1 rfl rfl rfl rfl ?_
    refine ev_ls (L' := [some (.ref g), some (.int a1), some (.int a2), some (.int a3), some (.int a4), some (.int a5), some (.int a6), some (.int a7), u8]) (st' := [.int a2, .int a1, .ref g, .int (gF G 0 3), .ref g]) (pc' := 129) hk (.iload_n 2) 1 rfl rfl rfl rfl ?_
    obtain ⟨v19, hc20, hx⟩ := bnd_some hx
    refine ev_cv 226 2 [.int v19, .int (gF G 0 3), .ref g] 132 hk rfl rfl rfl rfl (lk_globe hg gup_same) rfl rfl rfl (rG_hemPrice hg hc20) rfl rfl rfl rfl ?_
    refine ev_op (st' := [.int ((gF G 0 3) - v19), .ref g]) (pc' := 133) hk (.isub) 1 rfl rfl rfl ?_
    obtain ⟨G21, hG21, hx⟩ := bnd_some hx
    have hG21 := Option.some.inj hG21
    refine ev_pf 136 hk rfl rfl (lk_globe hg gup_same) rfl rfl rfl (sf_1_3 hg  gup_same hG21 gup_gup) rfl ?_
    refine ev_ls (L' := [some (.ref g), some (.int a1), some (.int a2), some (.int a3), some (.int a4), some (.int a5), some (.int a6), some (.int a7), u8]) (st' := [.ref g]) (pc' := 137) hk (.aload_n 0) 1 rfl rfl rfl rfl ?_
    refine ev_gf (.ref (g + 5)) 140 hk rfl rfl (lk_globe hg gup_same) rfl rfl ?_
    refine ev_ls (L' := [some (.ref g), some (.int a1), some (.int a2), some (.int a3), some (.int a4), some (.int a5), some (.int a6), some (.int a7), u8]) (st' := [.int a1, .ref (g + 5)]) (pc' := 141) hk (.iload_n 1) 1 rfl rfl rfl rfl ?_
    refine ev_ls (L' := [some (.ref g), some (.int a1), some (.int a2), some (.int a3), some (.int a4), some (.int a5), some (.int a6), some (.int a7), u8]) (st' := [.int a2, .int a1, .ref (g + 5)]) (pc' := 142) hk (.iload_n 2) 1 rfl rfl rfl rfl ?_
    obtain ⟨A22, hA22, hx⟩ := bnd_some hx
    obtain ⟨G23, hG23, hx⟩ := bnd_some hx
    have hG23 := Option.some.inj hG23
    refine ev_ias hA22 143 hk rfl (lk_a5 hg gup_same) (sa_g5 hg gup_same hG23 gup_gup) rfl ?_
    refine ev_ls (L' := [some (.ref g), some (.int a1), some (.int a2), some (.int a3), some (.int a4), some (.int a5), some (.int a6), some (.int a7), u8]) (st' := [.int a6]) (pc' := 145) hk (.iload 6) 2 rfl rfl rfl rfl ?_
    cases hx
    obtain rfl := hM
    exact ev_retI hk rfl rfl
  · refine ev_ls (L' := [some (.ref g), some (.int a1), some (.int a2), some (.int a3), some (.int a4), some (.int a5), some (.int a6), some (.int a7), u8]) (st' := [.ref g]) (pc' := 56) hk (.aload_n 0) 1 rfl rfl rfl rfl ?_
    refine ev_gf (.ref (g + 6)) 59 hk rfl rfl (lk_globe hg gup_same) rfl rfl ?_
    refine ev_ls (L' := [some (.ref g), some (.int a1), some (.int a2), some (.int a3), some (.int a4), some (.int a5), some (.int a6), some (.int a7), u8]) (st' := [.int a7, .ref (g + 6)]) (pc' := 61) hk (.iload 7) 2 rfl rfl rfl rfl ?_
    obtain ⟨p24, hp24, hx⟩ := bnd_some hx
    have hpp24 := rix_lt hp24
    refine ev_aal (g + (7 + p24)) hp24 62 hk rfl (lk_spots hg gup_same) (by decide) (lk_sp hpp24) rfl ?_
    refine ev_ls (L' := [some (.ref g), some (.int a1), some (.int a2), some (.int a3), some (.int a4), some (.int a5), some (.int a6), some (.int a7), some (.ref (g + (7 + p24)))]) (st' := []) (pc' := 64) hk (.astore 8) 2 rfl rfl rfl rfl ?_
    refine ev_ls (L' := [some (.ref g), some (.int a1), some (.int a2), some (.int a3), some (.int a4), some (.int a5), some (.int a6), some (.int a7), some (.ref (g + (7 + p24)))]) (st' := [.ref (g + (7 + p24))]) (pc' := 66) hk (.aload 8) 2 rfl rfl rfl rfl ?_
    refine ev_gf (.int (b2i (gB G (7 + p24)))) 69 hk rfl rfl (lk_spot hg hpp24 gup_same) rfl rfl ?_
    refine ev_d1 115 72 hk rfl rfl rfl rfl (px_beq hx (fun hc hx => ?_) (fun hc hx => ?_))
    · refine ev_ls (L' := [some (.ref g), some (.int a1), some (.int a2), some (.int a3), some (.int a4), some (.int a5), some (.int a6), some (.int (a7 + 1)), some (.ref (g + (7 + p24)))]) (st' := []) (pc' := 118) hk (.iinc 7 1) 3 rfl rfl rfl rfl ?_
      refine ev_jp (pc' := 46) (st' := []) hk (.goto (-72)) 3 rfl rfl rfl rfl rfl ?_
      cases hx
      exact hM (some (.ref (g + (7 + p24)))) rfl
    · refine ev_ls (L' := [some (.ref g), some (.int a1), some (.int a2), some (.int a3), some (.int a4), some (.int a5), some (.int a6), some (.int a7), some (.ref (g + (7 + p24)))]) (st' := [.ref (g + (7 + p24))]) (pc' := 74) hk (.aload 8) 2 rfl rfl rfl rfl ?_
      refine ev_gf (.int (gF G (7 + p24) 2)) 77 hk rfl rfl (lk_spot hg hpp24 gup_same) rfl rfl ?_
      refine ev_ls (L' := [some (.ref g), some (.int a1), some (.int a2), some (.int a3), some (.int a4), some (.int a5), some (.int a6), some (.int a7), some (.ref (g + (7 + p24)))]) (st' := [.int a1, .int (gF G (7 + p24) 2)]) (pc' := 78) hk (.iload_n 1) 1 rfl rfl rfl rfl ?_
      refine ev_d2 115 81 hk rfl rfl rfl rfl (px_cne hx (fun hc hx => ?_) (fun hc hx => ?_))
      · refine ev_ls (L' := [some (.ref g), some (.int a1), some (.int a2), some (.int a3), some (.int a4), some (.int a5), some (.int a6), some (.int (a7 + 1)), some (.ref (g + (7 + p24)))]) (st' := []) (pc' := 118) hk (.iinc 7 1) 3 rfl rfl rfl rfl ?_
        refine ev_jp (pc' := 46) (st' := []) hk (.goto (-72)) 3 rfl rfl rfl rfl rfl ?_
        cases hx
        exact hM (some (.ref (g + (7 + p24)))) rfl
      · refine ev_ls (L' := [some (.ref g), some (.int a1), some (.int a2), some (.int a3), some (.int a4), some (.int a5), some (.int a6), some (.int a7), some (.ref (g + (7 + p24)))]) (st' := [.ref (g + (7 + p24))]) (pc' := 83) hk (.aload 8) 2 rfl rfl rfl rfl ?_
        refine ev_gf (.int (gF G (7 + p24) 3)) 86 hk rfl rfl (lk_spot hg hpp24 gup_same) rfl rfl ?_
        refine ev_ls (L' := [some (.ref g), some (.int a1), some (.int a2), some (.int a3), some (.int a4), some (.int a5), some (.int a6), some (.int a7), some (.ref (g + (7 + p24)))]) (st' := [.int a3, .int (gF G (7 + p24) 3)]) (pc' := 87) hk (.iload_n 3) 1 rfl rfl rfl rfl ?_
        refine ev_d2 115 90 hk rfl rfl rfl rfl (px_clt hx (fun hc hx => ?_) (fun hc hx => ?_))
        · refine ev_ls (L' := [some (.ref g), some (.int a1), some (.int a2), some (.int a3), some (.int a4), some (.int a5), some (.int a6), some (.int (a7 + 1)), some (.ref (g + (7 + p24)))]) (st' := []) (pc' := 118) hk (.iinc 7 1) 3 rfl rfl rfl rfl ?_
          refine ev_jp (pc' := 46) (st' := []) hk (.goto (-72)) 3 rfl rfl rfl rfl rfl ?_
          cases hx
          exact hM (some (.ref (g + (7 + p24)))) rfl
        · refine ev_ls (L' := [some (.ref g), some (.int a1), some (.int a2), some (.int a3), some (.int a4), some (.int a5), some (.int a6), some (.int a7), some (.ref (g + (7 + p24)))]) (st' := [.ref (g + (7 + p24))]) (pc' := 92) hk (.aload 8) 2 rfl rfl rfl rfl ?_
          refine ev_gf (.int (gF G (7 + p24) 3)) 95 hk rfl rfl (lk_spot hg hpp24 gup_same) rfl rfl ?_
          refine ev_ls (L' := [some (.ref g), some (.int a1), some (.int a2), some (.int a3), some (.int a4), some (.int a5), some (.int a6), some (.int a7), some (.ref (g + (7 + p24)))]) (st' := [.int a4, .int (gF G (7 + p24) 3)]) (pc' := 97) hk (.iload 4) 2 rfl rfl rfl rfl ?_
          refine ev_d2 115 100 hk rfl rfl rfl rfl (px_cge hx (fun hc hx => ?_) (fun hc hx => ?_))
          · refine ev_ls (L' := [some (.ref g), some (.int a1), some (.int a2), some (.int a3), some (.int a4), some (.int a5), some (.int a6), some (.int (a7 + 1)), some (.ref (g + (7 + p24)))]) (st' := []) (pc' := 118) hk (.iinc 7 1) 3 rfl rfl rfl rfl ?_
            refine ev_jp (pc' := 46) (st' := []) hk (.goto (-72)) 3 rfl rfl rfl rfl rfl ?_
            cases hx
            exact hM (some (.ref (g + (7 + p24)))) rfl
          · refine ev_ls (L' := [some (.ref g), some (.int a1), some (.int a2), some (.int a3), some (.int a4), some (.int a5), some (.int a6), some (.int a7), some (.ref (g + (7 + p24)))]) (st' := [.ref (g + (7 + p24))]) (pc' := 102) hk (.aload 8) 2 rfl rfl rfl rfl ?_
            refine ev_op (st' := [.ref (g + (7 + p24)), .ref (g + (7 + p24))]) (pc' := 103) hk (.dup) 1 rfl rfl rfl ?_
            refine ev_gf (.int (gF G (7 + p24) 4)) 106 hk rfl rfl (lk_spot hg hpp24 gup_same) rfl rfl ?_
            refine ev_ls (L' := [some (.ref g), some (.int a1), some (.int a2), some (.int a3), some (.int a4), some (.int a5), some (.int a6), some (.int a7), some (.ref (g + (7 + p24)))]) (st' := [.int a5, .int (gF G (7 + p24) 4), .ref (g + (7 + p24))]) (pc' := 108) hk (.iload 5) 2 rfl rfl rfl rfl ?_
            refine ev_op (st' := [.int ((gF G (7 + p24) 4) + a5), .ref (g + (7 + p24))]) (pc' := 109) hk (.iadd) 1 rfl rfl rfl ?_
            obtain ⟨G25, hG25, hx⟩ := bnd_some hx
            have hG25 := Option.some.inj hG25
            refine ev_pf 112 hk rfl rfl (lk_spot hg hpp24 gup_same) rfl rfl rfl (sf_6_4 hg hpp24 gup_same hG25 gup_gup) rfl ?_
            refine ev_ls (L' := [some (.ref g), some (.int a1), some (.int a2), some (.int a3), some (.int a4), some (.int a5), some (.int (a6 + 1)), some (.int a7), some (.ref (g + (7 + p24)))]) (st' := []) (pc' := 115) hk (.iinc 6 1) 3 rfl rfl rfl rfl ?_
            refine ev_ls (L' := [some (.ref g), some (.int a1), some (.int a2), some (.int a3), some (.int a4), some (.int a5), some (.int (a6 + 1)), some (.int (a7 + 1)), some (.ref (g + (7 + p24)))]) (st' := []) (pc' := 118) hk (.iinc 7 1) 3 rfl rfl rfl rfl ?_
            refine ev_jp (pc' := 46) (st' := []) hk (.goto (-72)) 3 rfl rfl rfl rfl rfl ?_
            cases hx
            exact hM (some (.ref (g + (7 + p24)))) rfl
set_option maxRecDepth 4000 in
theorem rG_shiftHem_j38 {S : Nat} {xs : Nat → Int32} {I : zI} {C : zC} {Y : Nat → Int32} {Γ : Nat → zG} {D : zD} {O : Nat → Int32} {M : zM} {ou : Nat → Int64} {od : Nat → UInt64} {j : Nat} {g : Nat} {G : zG} {a1 : Int32} {a2 : Int32} {a3 : Int32} {a4 : Int32} {a0t : Int32} {y : (Option Value ⊕ String) × px_H} {x : Int32 × zG} (hg : isG g) (hx : fG_shiftHem_j38 G a1 a2 a3 a4 a0t = some x) (hM : (fun X : Int32 × zG => y = (((.inl (some (.int X.1))), (zH I C Y (gup Γ g X.2) D O M ou od j)) : (Option Value ⊕ String) × px_H)) x)  : Ev S xs 248 38 [some (.ref g), some (.int a1), some (.int a2), some (.int a3), some (.int a4), none, none, none, none] [.int a0t] (zH I C Y (gup Γ g G) D O M ou od j) y := by
  have hk : pt_mt[248]? = some pt_r248 := rfl
  unfold fG_shiftHem_j38 at hx
  refine ev_ls (L' := [some (.ref g), some (.int a1), some (.int a2), some (.int a3), some (.int a4), some (.int a0t), none, none, none]) (st' := []) (pc' := 40) hk (.istore 5) 2 rfl rfl rfl rfl ?_
  refine ev_op (st' := [.int 0]) (pc' := 41) hk (.iconst 0) 1 rfl rfl rfl ?_
  refine ev_ls (L' := [some (.ref g), some (.int a1), some (.int a2), some (.int a3), some (.int a4), some (.int a0t), some (.int 0), none, none]) (st' := []) (pc' := 43) hk (.istore 6) 2 rfl rfl rfl rfl ?_
  refine ev_op (st' := [.int 0]) (pc' := 44) hk (.iconst 0) 1 rfl rfl rfl ?_
  refine ev_ls (L' := [some (.ref g), some (.int a1), some (.int a2), some (.int a3), some (.int a4), some (.int a0t), some (.int 0), some (.int 0), none]) (st' := []) (pc' := 46) hk (.istore 7) 2 rfl rfl rfl rfl ?_
  exact ev_iter (qG_shiftHem_46 S xs I C Y Γ D O M ou od j g a1 a2 a3 a4 a0t _) (fun X : Int32 × zG => y = (((.inl (some (.int X.1))), (zH I C Y (gup Γ g X.2) D O M ou od j)) : (Option Value ⊕ String) × px_H)) (fun s x hb hM => rG_shiftHem_b46 hg hb hM) fu _ _ hx hM none rfl
set_option maxRecDepth 2000 in
theorem rG_shiftHem {S : Nat} {xs : Nat → Int32} {I : zI} {C : zC} {Y : Nat → Int32} {Γ : Nat → zG} {D : zD} {O : Nat → Int32} {M : zM} {ou : Nat → Int64} {od : Nat → UInt64} {j : Nat} {g : Nat} {G : zG} {a1 : Int32} {a2 : Int32} {X : Int32 × zG}  (hg : isG g) (hx : fG_shiftHem G a1 a2 = some X) : Ev S xs 248 0 [some (.ref g), some (.int a1), some (.int a2), none, none, none, none, none, none] [] (zH I C Y (gup Γ g G) D O M ou od j) (((.inl (some (.int X.1))), (zH I C Y (gup Γ g X.2) D O M ou od j)) : (Option Value ⊕ String) × px_H) := by
  generalize hM : (((.inl (some (.int X.1))), (zH I C Y (gup Γ g X.2) D O M ou od j)) : (Option Value ⊕ String) × px_H) = y
  replace hM := hM.symm
  have hk : pt_mt[248]? = some pt_r248 := rfl
  unfold fG_shiftHem at hx
  refine ev_ls (L' := [some (.ref g), some (.int a1), some (.int a2), none, none, none, none, none, none]) (st' := [.ref g]) (pc' := 1) hk (.aload_n 0) 1 rfl rfl rfl rfl ?_
  refine ev_gf (.ref (g + 5)) 4 hk rfl rfl (lk_globe hg gup_same) rfl rfl ?_
  refine ev_ls (L' := [some (.ref g), some (.int a1), some (.int a2), none, none, none, none, none, none]) (st' := [.int a1, .ref (g + 5)]) (pc' := 5) hk (.iload_n 1) 1 rfl rfl rfl rfl ?_
  obtain ⟨v26, hv26, hx⟩ := bnd_some hx
  refine ev_ial hv26 6 hk rfl (lk_a5 hg gup_same) rfl ?_
  refine ev_ls (L' := [some (.ref g), some (.int a1), some (.int a2), none, none, none, none, none, none]) (st' := [.int a2, .int v26]) (pc' := 7) hk (.iload_n 2) 1 rfl rfl rfl rfl ?_
  refine ev_cs 4 2 [.int (fJ_min_7cf53 v26 a2)] 10 hk rfl rfl (by decide) rfl rfl rfl (rJ_min_7cf53 rfl) rfl rfl rfl rfl ?_
  refine ev_ls (L' := [some (.ref g), some (.int a1), some (.int a2), some (.int (fJ_min_7cf53 v26 a2)), none, none, none, none, none]) (st' := []) (pc' := 11) hk (.istore_n 3) 1 rfl rfl rfl rfl ?_
  refine ev_ls (L' := [some (.ref g), some (.int a1), some (.int a2), some (.int (fJ_min_7cf53 v26 a2)), none, none, none, none, none]) (st' := [.ref g]) (pc' := 12) hk (.aload_n 0) 1 rfl rfl rfl rfl ?_
  refine ev_gf (.ref (g + 5)) 15 hk rfl rfl (lk_globe hg gup_same) rfl rfl ?_
  refine ev_ls (L' := [some (.ref g), some (.int a1), some (.int a2), some (.int (fJ_min_7cf53 v26 a2)), none, none, none, none, none]) (st' := [.int a1, .ref (g + 5)]) (pc' := 16) hk (.iload_n 1) 1 rfl rfl rfl rfl ?_
  obtain ⟨v27, hv27, hx⟩ := bnd_some hx
  refine ev_ial hv27 17 hk rfl (lk_a5 hg gup_same) rfl ?_
  refine ev_ls (L' := [some (.ref g), some (.int a1), some (.int a2), some (.int (fJ_min_7cf53 v26 a2)), none, none, none, none, none]) (st' := [.int a2, .int v27]) (pc' := 18) hk (.iload_n 2) 1 rfl rfl rfl rfl ?_
  refine ev_cs 3 2 [.int (fJ_max_7cf53 v27 a2)] 21 hk rfl rfl (by decide) rfl rfl rfl (rJ_max_7cf53 rfl) rfl rfl rfl rfl ?_
  refine ev_ls (L' := [some (.ref g), some (.int a1), some (.int a2), some (.int (fJ_min_7cf53 v26 a2)), some (.int (fJ_max_7cf53 v27 a2)), none, none, none, none]) (st' := []) (pc' := 23) hk (.istore 4) 2 rfl rfl rfl rfl ?_
  refine ev_ls (L' := [some (.ref g), some (.int a1), some (.int a2), some (.int (fJ_min_7cf53 v26 a2)), some (.int (fJ_max_7cf53 v27 a2)), none, none, none, none]) (st' := [.int a2]) (pc' := 24) hk (.iload_n 2) 1 rfl rfl rfl rfl ?_
  refine ev_ls (L' := [some (.ref g), some (.int a1), some (.int a2), some (.int (fJ_min_7cf53 v26 a2)), some (.int (fJ_max_7cf53 v27 a2)), none, none, none, none]) (st' := [.ref g, .int a2]) (pc' := 25) hk (.aload_n 0) 1 rfl rfl rfl rfl ?_
  refine ev_gf (.ref (g + 5)) 28 hk rfl rfl (lk_globe hg gup_same) rfl rfl ?_
  refine ev_ls (L' := [some (.ref g), some (.int a1), some (.int a2), some (.int (fJ_min_7cf53 v26 a2)), some (.int (fJ_max_7cf53 v27 a2)), none, none, none, none]) (st' := [.int a1, .ref (g + 5), .int a2]) (pc' := 29) hk (.iload_n 1) 1 rfl rfl rfl rfl ?_
  obtain ⟨v28, hv28, hx⟩ := bnd_some hx
  refine ev_ial hv28 30 hk rfl (lk_a5 hg gup_same) rfl ?_
  refine ev_d2 37 33 hk rfl rfl rfl rfl (px_cle hx (fun hc hx => ?_) (fun hc hx => ?_))
  · refine ev_op (st' := [.int (-1)]) (pc' := 38) hk (.iconst (-1)) 1 rfl rfl rfl ?_
    exact rG_shiftHem_j38 hg hx hM 
  · refine ev_op (st' := [.int 1]) (pc' := 34) hk (.iconst 1) 1 rfl rfl rfl ?_
    refine ev_jp (pc' := 38) (st' := [.int 1]) hk (.goto 4) 3 rfl rfl rfl rfl rfl ?_
    exact rG_shiftHem_j38 hg hx hM 
set_option maxRecDepth 2000 in
theorem rX_moveHem {S : Nat} {xs : Nat → Int32} {I : zI} {C : zC} {Y : Nat → Int32} {Γ : Nat → zG} {D : zD} {O : Nat → Int32} {M : zM} {ou : Nat → Int64} {od : Nat → UInt64} {j : Nat} {a1 : Int32} {a2 : Int32} {X : (Int32 ⊕ String) × (Nat → Int32) × (Nat → zG)}   (hx : fX_moveHem Y Γ a1 a2 = some X) : Ev S xs 337 0 [some (.ref 0), some (.int a1), some (.int a2)] [] (zH I C Y Γ D O M ou od j) (Sum.elim (fun v => ((.inl (some (.int v))), (zH I C X.2.1 X.2.2 D O M ou od j))) (fun E => (.inr E, (zH I C X.2.1 X.2.2 D O M ou od (j + 1)))) X.1 : (Option Value ⊕ String) × px_H) := by
  generalize hM : (Sum.elim (fun v => ((.inl (some (.int v))), (zH I C X.2.1 X.2.2 D O M ou od j))) (fun E => (.inr E, (zH I C X.2.1 X.2.2 D O M ou od (j + 1)))) X.1 : (Option Value ⊕ String) × px_H) = y
  replace hM := hM.symm
  have hk : pt_mt[337]? = some pt_r337 := rfl
  unfold fX_moveHem at hx
  refine ev_ls (L' := [some (.ref 0), some (.int a1), some (.int a2)]) (st' := [.ref 0]) (pc' := 1) hk (.aload_n 0) 1 rfl rfl rfl rfl ?_
  refine ev_gf (.ref 10) 4 hk rfl rfl lk_dh rfl rfl ?_
  refine ev_ls (L' := [some (.ref 0), some (.int a1), some (.int a2)]) (st' := [.int a1, .ref 10]) (pc' := 5) hk (.iload_n 1) 1 rfl rfl rfl rfl ?_
  refine ev_ls (L' := [some (.ref 0), some (.int a1), some (.int a2)]) (st' := [.int a2, .int a1, .ref 10]) (pc' := 6) hk (.iload_n 2) 1 rfl rfl rfl rfl ?_
  obtain ⟨v1, hc2, hx⟩ := bnd_some hx
  refine ev_cv 227 2 [.int v1] 9 hk rfl rfl rfl rfl (lk_globe isG_10 rfl) rfl rfl rfl (ev_gs2 (rG_hemRefusal isG_10 hc2)) rfl rfl rfl rfl ?_
  rcases bnx_some hx with ⟨⟨⟩, hc3, hx⟩ | ⟨E4, hc3, hx⟩
  · skip
    refine ev_cs 350 1 [] 12 hk rfl rfl (by decide) rfl rfl rfl (rX_refuse hc3) rfl rfl rfl rfl ?_
    refine ev_ls (L' := [some (.ref 0), some (.int a1), some (.int a2)]) (st' := [.ref 0]) (pc' := 13) hk (.aload_n 0) 1 rfl rfl rfl rfl ?_
    refine ev_gf (.ref 88) 16 hk rfl rfl lk_dh rfl rfl ?_
    refine ev_ls (L' := [some (.ref 0), some (.int a1), some (.int a2)]) (st' := [.ref 0, .ref 88]) (pc' := 17) hk (.aload_n 0) 1 rfl rfl rfl rfl ?_
    refine ev_gf (.ref 10) 20 hk rfl rfl lk_dh rfl rfl ?_
    obtain ⟨Y6, Γ7, hc8, hx⟩ := bnd2_some hx
    refine ev_cv 261 1 [] 23 hk rfl rfl rfl rfl lk_hist rfl rfl rfl (rY_remember isG_10 (by decide) hc8) rfl rfl rfl rfl ?_
    refine ev_ls (L' := [some (.ref 0), some (.int a1), some (.int a2)]) (st' := [.ref 0]) (pc' := 24) hk (.aload_n 0) 1 rfl rfl rfl rfl ?_
    refine ev_gf (.ref 10) 27 hk rfl rfl lk_dh rfl rfl ?_
    refine ev_ls (L' := [some (.ref 0), some (.int a1), some (.int a2)]) (st' := [.int a1, .ref 10]) (pc' := 28) hk (.iload_n 1) 1 rfl rfl rfl rfl ?_
    refine ev_ls (L' := [some (.ref 0), some (.int a1), some (.int a2)]) (st' := [.int a2, .int a1, .ref 10]) (pc' := 29) hk (.iload_n 2) 1 rfl rfl rfl rfl ?_
    obtain ⟨v10, G9, hc11, hx⟩ := bnd2_some hx
    refine ev_cv 248 2 [.int v10] 32 hk rfl rfl rfl rfl (lk_globe isG_10 rfl) rfl rfl rfl (ev_gs (rG_shiftHem isG_10 hc11)) rfl rfl rfl rfl ?_
    cases hx
    obtain rfl := hM
    exact ev_retI hk rfl rfl
  · skip
    cases hx
    obtain rfl := hM
    exact ev_csX 350 1 hk rfl rfl (by decide) rfl rfl rfl rfl (rX_refuse hc3) rfl rfl
set_option maxRecDepth 2000 in
theorem rw_moveHem {S : Nat} {xs : Nat → Int32} {I : zI} {C : zC} {Y : Nat → Int32} {Γ : Nat → zG} {D : zD} {O : Nat → Int32} {M : zM} {ou : Nat → Int64} {od : Nat → UInt64} {j : Nat} {a1 : Int32} {a2 : Int32} {X : Int32 × (Nat → Int32) × (Nat → zG) × (Nat → Int64) × Nat}   (hx : fw_moveHem Y Γ ou j a1 a2 = some X) : Ev S xs 394 0 [some (.ref 0), some (.int a1), some (.int a2), some (.ref 261), none] [] (zH I C Y Γ D O M ou od j) (((.inl (some (.int X.1))), (zH I C X.2.1 X.2.2.1 D O M X.2.2.2.1 od X.2.2.2.2)) : (Option Value ⊕ String) × px_H) := by
  generalize hM : (((.inl (some (.int X.1))), (zH I C X.2.1 X.2.2.1 D O M X.2.2.2.1 od X.2.2.2.2)) : (Option Value ⊕ String) × px_H) = y
  replace hM := hM.symm
  have hk : pt_mt[394]? = some pt_r394 := rfl
  unfold fw_moveHem at hx
  refine ev_ls (L' := [some (.ref 0), some (.int a1), some (.int a2), some (.ref 261), none]) (st' := [.ref 261]) (pc' := 1) hk (.aload_n 3) 1 rfl rfl rfl rfl ?_
  refine ev_op (st' := [.int 0, .ref 261]) (pc' := 2) hk (.iconst 0) 1 rfl rfl rfl ?_
  refine ev_ls (L' := [some (.ref 0), some (.int a1), some (.int a2), some (.ref 261), none]) (st' := [.ref 0, .int 0, .ref 261]) (pc' := 3) hk (.aload_n 0) 1 rfl rfl rfl rfl ?_
  refine ev_ls (L' := [some (.ref 0), some (.int a1), some (.int a2), some (.ref 261), none]) (st' := [.int a1, .ref 0, .int 0, .ref 261]) (pc' := 4) hk (.iload_n 1) 1 rfl rfl rfl rfl ?_
  refine ev_ls (L' := [some (.ref 0), some (.int a1), some (.int a2), some (.ref 261), none]) (st' := [.int a2, .int a1, .ref 0, .int 0, .ref 261]) (pc' := 5) hk (.iload_n 2) 1 rfl rfl rfl rfl ?_
  obtain ⟨r8, Y2, Γ3, hc4, hx⟩ := bnd3_some hx
  rcases r8 with v6 | E5
  · simp only [Sum.elim_inl] at hx
    refine ev_cv 337 2 [.int v6, .int 0, .ref 261] 8 hk rfl rfl rfl rfl lk_dh rfl rfl rfl (rX_moveHem hc4) rfl rfl rfl rfl ?_
    refine ev_op (st' := [.long (Int32.toInt64 v6), .int 0, .ref 261]) (pc' := 9) hk (.i2l) 1 rfl rfl rfl ?_
    obtain ⟨ou7, hou7, hx⟩ := bnd_some hx
    have hou7 := Option.some.inj hou7
    refine ev_las (A := (vp_updL ou 0 (Int32.toInt64 v6))) rfl 10 hk rfl lk_ou (sa_ou hou7) rfl ?_
    refine ev_jp (pc' := 21) (st' := []) hk (.goto 11) 3 rfl rfl rfl rfl rfl ?_
    refine ev_op (st' := [.int 0]) (pc' := 22) hk (.iconst 0) 1 rfl rfl rfl ?_
    cases hx
    obtain rfl := hM
    exact ev_retI hk rfl rfl
  · simp only [Sum.elim_inr] at hx
    rcases ite_or hx with ⟨hE, hx⟩ | ⟨hE, hx⟩
    · subst hE
      refine ev_cvC 337 2 15 hk rfl rfl rfl rfl lk_dh rfl rfl rfl (t := 13) (by decide +kernel) (L' := [some (.ref 0), some (.int a1), some (.int a2), some (.ref 261), none]) rfl (rX_moveHem hc4) rfl rfl ?_
      refine ev_op (st' := [.int 1]) (pc' := 16) hk (.iconst 1) 1 rfl rfl rfl ?_
      cases hx
      obtain rfl := hM
      exact ev_retI hk rfl rfl
    rcases ite_or hx with ⟨hE, hx⟩ | ⟨hE, hx⟩
    · subst hE
      refine ev_cvC 337 2 19 hk rfl rfl rfl rfl lk_dh rfl rfl rfl (t := 17) (by decide +kernel) (L' := [some (.ref 0), some (.int a1), some (.int a2), some (.ref 261), none]) rfl (rX_moveHem hc4) rfl rfl ?_
      refine ev_op (st' := [.int 2]) (pc' := 20) hk (.iconst 2) 1 rfl rfl rfl ?_
      cases hx
      obtain rfl := hM
      exact ev_retI hk rfl rfl
    cases hx
set_option maxRecDepth 2000 in
theorem rM_isMeridian {S : Nat} {xs : Nat → Int32} {I : zI} {C : zC} {Y : Nat → Int32} {Γ : Nat → zG} {D : zD} {O : Nat → Int32} {M : zM} {ou : Nat → Int64} {od : Nat → UInt64} {j : Nat} {a0 : Int32} {X : Bool}   (hx : fM_isMeridian a0 = X) : Ev S xs 90 0 [some (.int a0)] [] (zH I C Y Γ D O M ou od j) (((.inl (some (.int (b2i X)))), (zH I C Y Γ D O M ou od j)) : (Option Value ⊕ String) × px_H) := by
  generalize hM : (((.inl (some (.int (b2i X)))), (zH I C Y Γ D O M ou od j)) : (Option Value ⊕ String) × px_H) = y
  replace hM := hM.symm
  have hk : pt_mt[90]? = some pt_r90 := rfl
  unfold fM_isMeridian at hx
  refine ev_ls (L' := [some (.int a0)]) (st' := [.int a0]) (pc' := 1) hk (.iload_n 0) 1 rfl rfl rfl rfl ?_
  refine ev_op (st' := [.long (Int32.toInt64 a0)]) (pc' := 2) hk (.i2l) 1 rfl rfl rfl ?_
  refine ev_op (st' := [.long 0, .long (Int32.toInt64 a0)]) (pc' := 3) hk (.lconst 0) 1 rfl rfl rfl ?_
  refine ev_ldJ 359 6 hk rfl rfl rfl ?_
  refine ev_cs 86 3 [.int (b2i (fM_isIn (Int32.toInt64 a0) 0 359))] 9 hk rfl rfl (by decide) rfl rfl rfl (rM_isIn rfl) rfl rfl rfl rfl ?_
  cases hx
  obtain rfl := hM
  exact ev_retZ _ rfl hk rfl rfl
set_option maxRecDepth 2000 in
theorem rM_isSpotAt {S : Nat} {xs : Nat → Int32} {I : zI} {C : zC} {Y : Nat → Int32} {Γ : Nat → zG} {D : zD} {O : Nat → Int32} {M : zM} {ou : Nat → Int64} {od : Nat → UInt64} {j : Nat} {a0 : Int32} {a1 : Int32} {X : Bool}   (hx : fM_isSpotAt a0 a1 = X) : Ev S xs 93 0 [some (.int a0), some (.int a1)] [] (zH I C Y Γ D O M ou od j) (((.inl (some (.int (b2i X)))), (zH I C Y Γ D O M ou od j)) : (Option Value ⊕ String) × px_H) := by
  generalize hM : (((.inl (some (.int (b2i X)))), (zH I C Y Γ D O M ou od j)) : (Option Value ⊕ String) × px_H) = y
  replace hM := hM.symm
  have hk : pt_mt[93]? = some pt_r93 := rfl
  unfold fM_isSpotAt at hx
  refine ev_ls (L' := [some (.int a0), some (.int a1)]) (st' := [.int a0]) (pc' := 1) hk (.iload_n 0) 1 rfl rfl rfl rfl ?_
  refine ev_cs 79 1 [.int (b2i (fM_isBand a0))] 4 hk rfl rfl (by decide) rfl rfl rfl (rM_isBand rfl) rfl rfl rfl rfl ?_
  refine ev_d1 18 7 hk rfl rfl rfl rfl (px_beq hx (fun hc hx => ?_) (fun hc hx => ?_))
  · refine ev_op (st' := [.int 0]) (pc' := 19) hk (.iconst 0) 1 rfl rfl rfl ?_
    cases hx
    obtain rfl := hM
    exact ev_retZ false rfl hk rfl rfl
  · refine ev_ls (L' := [some (.int a0), some (.int a1)]) (st' := [.int a1]) (pc' := 8) hk (.iload_n 1) 1 rfl rfl rfl rfl ?_
    refine ev_cs 90 1 [.int (b2i (fM_isMeridian a1))] 11 hk rfl rfl (by decide) rfl rfl rfl (rM_isMeridian rfl) rfl rfl rfl rfl ?_
    refine ev_d1 18 14 hk rfl rfl rfl rfl (px_beq hx (fun hc hx => ?_) (fun hc hx => ?_))
    · refine ev_op (st' := [.int 0]) (pc' := 19) hk (.iconst 0) 1 rfl rfl rfl ?_
      cases hx
      obtain rfl := hM
      exact ev_retZ false rfl hk rfl rfl
    · refine ev_op (st' := [.int 1]) (pc' := 15) hk (.iconst 1) 1 rfl rfl rfl ?_
      refine ev_jp (pc' := 19) (st' := [.int 1]) hk (.goto 4) 3 rfl rfl rfl rfl rfl ?_
      cases hx
      obtain rfl := hM
      exact ev_retZ true rfl hk rfl rfl
set_option maxRecDepth 2000 in
theorem rM_gap {S : Nat} {xs : Nat → Int32} {I : zI} {C : zC} {Y : Nat → Int32} {Γ : Nat → zG} {D : zD} {O : Nat → Int32} {M : zM} {ou : Nat → Int64} {od : Nat → UInt64} {j : Nat} {a0 : Int32} {a1 : Int32} {X : Int32}   (hx : fM_gap a0 a1 = X) : Ev S xs 57 0 [some (.int a0), some (.int a1)] [] (zH I C Y Γ D O M ou od j) (((.inl (some (.int X))), (zH I C Y Γ D O M ou od j)) : (Option Value ⊕ String) × px_H) := by
  generalize hM : (((.inl (some (.int X))), (zH I C Y Γ D O M ou od j)) : (Option Value ⊕ String) × px_H) = y
  replace hM := hM.symm
  have hk : pt_mt[57]? = some pt_r57 := rfl
  unfold fM_gap at hx
  refine ev_ls (L' := [some (.int a0), some (.int a1)]) (st' := [.int a0]) (pc' := 1) hk (.iload_n 0) 1 rfl rfl rfl rfl ?_
  refine ev_ls (L' := [some (.int a0), some (.int a1)]) (st' := [.int a1, .int a0]) (pc' := 2) hk (.iload_n 1) 1 rfl rfl rfl rfl ?_
  refine ev_d2 11 5 hk rfl rfl rfl rfl (px_cge hx (fun hc hx => ?_) (fun hc hx => ?_))
  · refine ev_ls (L' := [some (.int a0), some (.int a1)]) (st' := [.int a0]) (pc' := 12) hk (.iload_n 0) 1 rfl rfl rfl rfl ?_
    refine ev_ls (L' := [some (.int a0), some (.int a1)]) (st' := [.int a1, .int a0]) (pc' := 13) hk (.iload_n 1) 1 rfl rfl rfl rfl ?_
    refine ev_op (st' := [.int (a0 - a1)]) (pc' := 14) hk (.isub) 1 rfl rfl rfl ?_
    cases hx
    obtain rfl := hM
    exact ev_retI hk rfl rfl
  · refine ev_ls (L' := [some (.int a0), some (.int a1)]) (st' := [.int a1]) (pc' := 6) hk (.iload_n 1) 1 rfl rfl rfl rfl ?_
    refine ev_ls (L' := [some (.int a0), some (.int a1)]) (st' := [.int a0, .int a1]) (pc' := 7) hk (.iload_n 0) 1 rfl rfl rfl rfl ?_
    refine ev_op (st' := [.int (a1 - a0)]) (pc' := 8) hk (.isub) 1 rfl rfl rfl ?_
    refine ev_jp (pc' := 14) (st' := [.int (a1 - a0)]) hk (.goto 6) 3 rfl rfl rfl rfl rfl ?_
    cases hx
    obtain rfl := hM
    exact ev_retI hk rfl rfl
set_option maxRecDepth 2000 in
theorem rM_isFar {S : Nat} {xs : Nat → Int32} {I : zI} {C : zC} {Y : Nat → Int32} {Γ : Nat → zG} {D : zD} {O : Nat → Int32} {M : zM} {ou : Nat → Int64} {od : Nat → UInt64} {j : Nat} {a1 : Int32} {a2 : Int32} {X : Bool}   (hx : fM_isFar M a1 a2 = some X) : Ev S xs 82 0 [some (.ref 247), some (.int a1), some (.int a2)] [] (zH I C Y Γ D O M ou od j) (((.inl (some (.int (b2i X)))), (zH I C Y Γ D O M ou od j)) : (Option Value ⊕ String) × px_H) := by
  generalize hM : (((.inl (some (.int (b2i X)))), (zH I C Y Γ D O M ou od j)) : (Option Value ⊕ String) × px_H) = y
  replace hM := hM.symm
  have hk : pt_mt[82]? = some pt_r82 := rfl
  unfold fM_isFar at hx
  refine ev_ls (L' := [some (.ref 247), some (.int a1), some (.int a2)]) (st' := [.int a1]) (pc' := 1) hk (.iload_n 1) 1 rfl rfl rfl rfl ?_
  refine ev_cs 79 1 [.int (b2i (fM_isBand a1))] 4 hk rfl rfl (by decide) rfl rfl rfl (rM_isBand rfl) rfl rfl rfl rfl ?_
  refine ev_d1 28 7 hk rfl rfl rfl rfl (px_beq hx (fun hc hx => ?_) (fun hc hx => ?_))
  · refine ev_op (st' := [.int 0]) (pc' := 29) hk (.iconst 0) 1 rfl rfl rfl ?_
    cases hx
    obtain rfl := hM
    exact ev_retZ false rfl hk rfl rfl
  · refine ev_ls (L' := [some (.ref 247), some (.int a1), some (.int a2)]) (st' := [.ref 247]) (pc' := 8) hk (.aload_n 0) 1 rfl rfl rfl rfl ?_
    refine ev_gf (.ref 249) 11 hk rfl rfl lk_model rfl rfl ?_
    refine ev_op (st' := [.int 5, .ref 249]) (pc' := 12) hk (.iconst 5) 1 rfl rfl rfl ?_
    refine ev_ls (L' := [some (.ref 247), some (.int a1), some (.int a2)]) (st' := [.int a1, .int 5, .ref 249]) (pc' := 13) hk (.iload_n 1) 1 rfl rfl rfl rfl ?_
    refine ev_op (st' := [.int (5 + a1), .ref 249]) (pc' := 14) hk (.iadd) 1 rfl rfl rfl ?_
    obtain ⟨v2, hv2, hx⟩ := bnd_some hx
    refine ev_ial hv2 15 hk rfl lk_m249 rfl ?_
    refine ev_ls (L' := [some (.ref 247), some (.int a1), some (.int a2)]) (st' := [.int a2, .int v2]) (pc' := 16) hk (.iload_n 2) 1 rfl rfl rfl rfl ?_
    refine ev_cs 57 2 [.int (fM_gap v2 a2)] 19 hk rfl rfl (by decide) rfl rfl rfl (rM_gap rfl) rfl rfl rfl rfl ?_
    refine ev_op (st' := [.int 60, .int (fM_gap v2 a2)]) (pc' := 21) hk (.bipush 60) 2 rfl rfl rfl ?_
    refine ev_d2 28 24 hk rfl rfl rfl rfl (px_cle hx (fun hc hx => ?_) (fun hc hx => ?_))
    · refine ev_op (st' := [.int 0]) (pc' := 29) hk (.iconst 0) 1 rfl rfl rfl ?_
      cases hx
      obtain rfl := hM
      exact ev_retZ false rfl hk rfl rfl
    · refine ev_op (st' := [.int 1]) (pc' := 25) hk (.iconst 1) 1 rfl rfl rfl ?_
      refine ev_jp (pc' := 29) (st' := [.int 1]) hk (.goto 4) 3 rfl rfl rfl rfl rfl ?_
      cases hx
      obtain rfl := hM
      exact ev_retZ true rfl hk rfl rfl
def qM_wouldBeCrossed_2 (S : Nat) (xs : Nat → Int32) (I : zI) (C : zC) (Y : Nat → Int32) (Γ : Nat → zG) (D : zD) (O : Nat → Int32) (M : zM) (ou : Nat → Int64) (od : Nat → UInt64) (j : Nat) (a1 : Int32) (a2 : Int32) (y : (Option Value ⊕ String) × px_H) (s : Int32) : Prop := Ev S xs 201 2 [some (.ref 247), some (.int a1), some (.int a2), some (.int s)] [] (zH I C Y Γ D O M ou od j) y
set_option maxRecDepth 4000 in
theorem rM_wouldBeCrossed_b2 {S : Nat} {xs : Nat → Int32} {I : zI} {C : zC} {Y : Nat → Int32} {Γ : Nat → zG} {D : zD} {O : Nat → Int32} {M : zM} {ou : Nat → Int64} {od : Nat → UInt64} {j : Nat} {a1 : Int32} {a2 : Int32} {y : (Option Value ⊕ String) × px_H} {s : Int32} {x : (Int32) ⊕ (Bool)}  (hx : fM_wouldBeCrossed_b2 M a1 a2 s = some x) (hM : (Sum.elim (qM_wouldBeCrossed_2 S xs I C Y Γ D O M ou od j a1 a2 y) (fun X : Bool => y = (((.inl (some (.int (b2i X)))), (zH I C Y Γ D O M ou od j)) : (Option Value ⊕ String) × px_H))) x) : qM_wouldBeCrossed_2 S xs I C Y Γ D O M ou od j a1 a2 y s := by
  revert hx
  generalize s = a3
  intro hx
  have hk : pt_mt[201]? = some pt_r201 := rfl
  unfold fM_wouldBeCrossed_b2 at hx
  try dsimp only at hx
  refine ev_ls (L' := [some (.ref 247), some (.int a1), some (.int a2), some (.int a3)]) (st' := [.int a3]) (pc' := 3) hk (.iload_n 3) 1 rfl rfl rfl rfl ?_
  refine ev_ls (L' := [some (.ref 247), some (.int a1), some (.int a2), some (.int a3)]) (st' := [.ref 247, .int a3]) (pc' := 4) hk (.aload_n 0) 1 rfl rfl rfl rfl ?_
  refine ev_gf (.ref 249) 7 hk rfl rfl lk_model rfl rfl ?_
  refine ev_op (st' := [.int 2, .ref 249, .int a3]) (pc' := 8) hk (.iconst 2) 1 rfl rfl rfl ?_
  refine ev_ial (v := ((mA M 249) 2)) rfl 9 hk rfl lk_m249 rfl ?_
  refine ev_d2 39 12 hk rfl rfl rfl rfl (px_cge hx (fun hc hx => ?_) (fun hc hx => ?_))
  · refine ev_op (st' := [.int 0]) (pc' := 40) hk (.iconst 0) 1 rfl rfl rfl ?_
    cases hx
    obtain rfl := hM
    exact ev_retZ false rfl hk rfl rfl
  · refine ev_ls (L' := [some (.ref 247), some (.int a1), some (.int a2), some (.int a3)]) (st' := [.ref 247]) (pc' := 13) hk (.aload_n 0) 1 rfl rfl rfl rfl ?_
    refine ev_ls (L' := [some (.ref 247), some (.int a1), some (.int a2), some (.int a3)]) (st' := [.int a3, .ref 247]) (pc' := 14) hk (.iload_n 3) 1 rfl rfl rfl rfl ?_
    refine ev_op (st' := [.int 0, .int a3, .ref 247]) (pc' := 15) hk (.iconst 0) 1 rfl rfl rfl ?_
    obtain ⟨v1, hc2, hx⟩ := bnd_some hx
    refine ev_cv 103 2 [.int v1] 18 hk rfl rfl rfl rfl lk_model rfl rfl rfl (rM_its hc2) rfl rfl rfl rfl ?_
    refine ev_ls (L' := [some (.ref 247), some (.int a1), some (.int a2), some (.int a3)]) (st' := [.int a1, .int v1]) (pc' := 19) hk (.iload_n 1) 1 rfl rfl rfl rfl ?_
    refine ev_d2 33 22 hk rfl rfl rfl rfl (px_cne hx (fun hc hx => ?_) (fun hc hx => ?_))
    · refine ev_ls (L' := [some (.ref 247), some (.int a1), some (.int a2), some (.int (a3 + 1))]) (st' := []) (pc' := 36) hk (.iinc 3 1) 3 rfl rfl rfl rfl ?_
      refine ev_jp (pc' := 2) (st' := []) hk (.goto (-34)) 3 rfl rfl rfl rfl rfl ?_
      cases hx
      exact hM
    · refine ev_ls (L' := [some (.ref 247), some (.int a1), some (.int a2), some (.int a3)]) (st' := [.ref 247]) (pc' := 23) hk (.aload_n 0) 1 rfl rfl rfl rfl ?_
      refine ev_ls (L' := [some (.ref 247), some (.int a1), some (.int a2), some (.int a3)]) (st' := [.int a3, .ref 247]) (pc' := 24) hk (.iload_n 3) 1 rfl rfl rfl rfl ?_
      refine ev_ls (L' := [some (.ref 247), some (.int a1), some (.int a2), some (.int a3)]) (st' := [.int a2, .int a3, .ref 247]) (pc' := 25) hk (.iload_n 2) 1 rfl rfl rfl rfl ?_
      obtain ⟨v3, hc4, hx⟩ := bnd_some hx
      refine ev_cv 40 2 [.int (b2i v3)] 28 hk rfl rfl rfl rfl lk_model rfl rfl rfl (rM_crosses hc4) rfl rfl rfl rfl ?_
      refine ev_d1 33 31 hk rfl rfl rfl rfl (px_beq hx (fun hc hx => ?_) (fun hc hx => ?_))
      · refine ev_ls (L' := [some (.ref 247), some (.int a1), some (.int a2), some (.int (a3 + 1))]) (st' := []) (pc' := 36) hk (.iinc 3 1) 3 rfl rfl rfl rfl ?_
        refine ev_jp (pc' := 2) (st' := []) hk (.goto (-34)) 3 rfl rfl rfl rfl rfl ?_
        cases hx
        exact hM
      · refine ev_op (st' := [.int 1]) (pc' := 32) hk (.iconst 1) 1 rfl rfl rfl ?_
        cases hx
        obtain rfl := hM
        exact ev_retZ true rfl hk rfl rfl
set_option maxRecDepth 2000 in
theorem rM_wouldBeCrossed {S : Nat} {xs : Nat → Int32} {I : zI} {C : zC} {Y : Nat → Int32} {Γ : Nat → zG} {D : zD} {O : Nat → Int32} {M : zM} {ou : Nat → Int64} {od : Nat → UInt64} {j : Nat} {a1 : Int32} {a2 : Int32} {X : Bool}   (hx : fM_wouldBeCrossed M a1 a2 = some X) : Ev S xs 201 0 [some (.ref 247), some (.int a1), some (.int a2), none] [] (zH I C Y Γ D O M ou od j) (((.inl (some (.int (b2i X)))), (zH I C Y Γ D O M ou od j)) : (Option Value ⊕ String) × px_H) := by
  generalize hM : (((.inl (some (.int (b2i X)))), (zH I C Y Γ D O M ou od j)) : (Option Value ⊕ String) × px_H) = y
  replace hM := hM.symm
  have hk : pt_mt[201]? = some pt_r201 := rfl
  unfold fM_wouldBeCrossed at hx
  refine ev_op (st' := [.int 0]) (pc' := 1) hk (.iconst 0) 1 rfl rfl rfl ?_
  refine ev_ls (L' := [some (.ref 247), some (.int a1), some (.int a2), some (.int 0)]) (st' := []) (pc' := 2) hk (.istore_n 3) 1 rfl rfl rfl rfl ?_
  exact ev_iter (qM_wouldBeCrossed_2 S xs I C Y Γ D O M ou od j a1 a2 _) (fun X : Bool => y = (((.inl (some (.int (b2i X)))), (zH I C Y Γ D O M ou od j)) : (Option Value ⊕ String) × px_H)) (fun s x hb hM => rM_wouldBeCrossed_b2 hb hM) fu _ _ hx hM 
set_option maxRecDepth 2000 in
theorem rM_threadFor {S : Nat} {xs : Nat → Int32} {I : zI} {C : zC} {Y : Nat → Int32} {Γ : Nat → zG} {D : zD} {O : Nat → Int32} {M : zM} {ou : Nat → Int64} {od : Nat → UInt64} {j : Nat} {a0 : Int32} {a1 : Int32} {X : Int32}   (hx : fM_threadFor a0 a1 = X) : Ev S xs 181 0 [some (.int a0), some (.int a1)] [] (zH I C Y Γ D O M ou od j) (((.inl (some (.int X))), (zH I C Y Γ D O M ou od j)) : (Option Value ⊕ String) × px_H) := by
  generalize hM : (((.inl (some (.int X))), (zH I C Y Γ D O M ou od j)) : (Option Value ⊕ String) × px_H) = y
  replace hM := hM.symm
  have hk : pt_mt[181]? = some pt_r181 := rfl
  unfold fM_threadFor at hx
  refine ev_ls (L' := [some (.int a0), some (.int a1)]) (st' := [.int a0]) (pc' := 1) hk (.iload_n 0) 1 rfl rfl rfl rfl ?_
  refine ev_ls (L' := [some (.int a0), some (.int a1)]) (st' := [.int a1, .int a0]) (pc' := 2) hk (.iload_n 1) 1 rfl rfl rfl rfl ?_
  refine ev_cs 57 2 [.int (fM_gap a0 a1)] 5 hk rfl rfl (by decide) rfl rfl rfl (rM_gap rfl) rfl rfl rfl rfl ?_
  refine ev_op (st' := [.int 4, .int (fM_gap a0 a1)]) (pc' := 6) hk (.iconst 4) 1 rfl rfl rfl ?_
  refine ev_op (st' := [.int ((fM_gap a0 a1) + 4)]) (pc' := 7) hk (.iadd) 1 rfl rfl rfl ?_
  refine ev_op (st' := [.int 5, .int ((fM_gap a0 a1) + 4)]) (pc' := 8) hk (.iconst 5) 1 rfl rfl rfl ?_
  refine ev_div 9 hk rfl (by decide) rfl ?_
  cases hx
  obtain rfl := hM
  exact ev_retI hk rfl rfl
set_option maxRecDepth 4000 in
theorem rM_hemWhy {S : Nat} {xs : Nat → Int32} {I : zI} {C : zC} {Y : Nat → Int32} {Γ : Nat → zG} {D : zD} {O : Nat → Int32} {M : zM} {ou : Nat → Int64} {od : Nat → UInt64} {j : Nat} {a1 : Int32} {a2 : Int32} {X : Int32}   (hx : fM_hemWhy M a1 a2 = some X) : Ev S xs 70 0 [some (.ref 247), some (.int a1), some (.int a2), none] [] (zH I C Y Γ D O M ou od j) (((.inl (some (.int X))), (zH I C Y Γ D O M ou od j)) : (Option Value ⊕ String) × px_H) := by
  generalize hM : (((.inl (some (.int X))), (zH I C Y Γ D O M ou od j)) : (Option Value ⊕ String) × px_H) = y
  replace hM := hM.symm
  have hk : pt_mt[70]? = some pt_r70 := rfl
  unfold fM_hemWhy at hx
  refine ev_ls (L' := [some (.ref 247), some (.int a1), some (.int a2), none]) (st' := [.ref 247]) (pc' := 1) hk (.aload_n 0) 1 rfl rfl rfl rfl ?_
  refine ev_gf (.ref 249) 4 hk rfl rfl lk_model rfl rfl ?_
  refine ev_op (st' := [.int 5, .ref 249]) (pc' := 5) hk (.iconst 5) 1 rfl rfl rfl ?_
  refine ev_ls (L' := [some (.ref 247), some (.int a1), some (.int a2), none]) (st' := [.int a1, .int 5, .ref 249]) (pc' := 6) hk (.iload_n 1) 1 rfl rfl rfl rfl ?_
  refine ev_op (st' := [.int (5 + a1), .ref 249]) (pc' := 7) hk (.iadd) 1 rfl rfl rfl ?_
  obtain ⟨v2, hv2, hx⟩ := bnd_some hx
  refine ev_ial hv2 8 hk rfl lk_m249 rfl ?_
  refine ev_ls (L' := [some (.ref 247), some (.int a1), some (.int a2), some (.int v2)]) (st' := []) (pc' := 9) hk (.istore_n 3) 1 rfl rfl rfl rfl ?_
  refine ev_ls (L' := [some (.ref 247), some (.int a1), some (.int a2), some (.int v2)]) (st' := [.int a2]) (pc' := 10) hk (.iload_n 2) 1 rfl rfl rfl rfl ?_
  refine ev_d1 18 13 hk rfl rfl rfl rfl (px_ceq hx (fun hc hx => ?_) (fun hc hx => ?_))
  · refine ev_op (st' := [.int 1]) (pc' := 19) hk (.iconst 1) 1 rfl rfl rfl ?_
    cases hx
    obtain rfl := hM
    exact ev_retI hk rfl rfl
  · refine ev_ls (L' := [some (.ref 247), some (.int a1), some (.int a2), some (.int v2)]) (st' := [.int a2]) (pc' := 14) hk (.iload_n 2) 1 rfl rfl rfl rfl ?_
    refine ev_ls (L' := [some (.ref 247), some (.int a1), some (.int a2), some (.int v2)]) (st' := [.int v2, .int a2]) (pc' := 15) hk (.iload_n 3) 1 rfl rfl rfl rfl ?_
    refine ev_d2 20 18 hk rfl rfl rfl rfl (px_cne hx (fun hc hx => ?_) (fun hc hx => ?_))
    · refine ev_ls (L' := [some (.ref 247), some (.int a1), some (.int a2), some (.int v2)]) (st' := [.ref 247]) (pc' := 21) hk (.aload_n 0) 1 rfl rfl rfl rfl ?_
      refine ev_ls (L' := [some (.ref 247), some (.int a1), some (.int a2), some (.int v2)]) (st' := [.int a1, .ref 247]) (pc' := 22) hk (.iload_n 1) 1 rfl rfl rfl rfl ?_
      refine ev_op (st' := [.int 1, .int a1, .ref 247]) (pc' := 23) hk (.iconst 1) 1 rfl rfl rfl ?_
      refine ev_op (st' := [.int (a1 - 1), .ref 247]) (pc' := 24) hk (.isub) 1 rfl rfl rfl ?_
      refine ev_ls (L' := [some (.ref 247), some (.int a1), some (.int a2), some (.int v2)]) (st' := [.int a2, .int (a1 - 1), .ref 247]) (pc' := 25) hk (.iload_n 2) 1 rfl rfl rfl rfl ?_
      obtain ⟨v3, hc4, hx⟩ := bnd_some hx
      refine ev_cv 82 2 [.int (b2i v3)] 28 hk rfl rfl rfl rfl lk_model rfl rfl rfl (rM_isFar hc4) rfl rfl rfl rfl ?_
      refine ev_d1 42 31 hk rfl rfl rfl rfl (px_bne hx (fun hc hx => ?_) (fun hc hx => ?_))
      · refine ev_op (st' := [.int 2]) (pc' := 43) hk (.iconst 2) 1 rfl rfl rfl ?_
        cases hx
        obtain rfl := hM
        exact ev_retI hk rfl rfl
      · refine ev_ls (L' := [some (.ref 247), some (.int a1), some (.int a2), some (.int v2)]) (st' := [.ref 247]) (pc' := 32) hk (.aload_n 0) 1 rfl rfl rfl rfl ?_
        refine ev_ls (L' := [some (.ref 247), some (.int a1), some (.int a2), some (.int v2)]) (st' := [.int a1, .ref 247]) (pc' := 33) hk (.iload_n 1) 1 rfl rfl rfl rfl ?_
        refine ev_op (st' := [.int 1, .int a1, .ref 247]) (pc' := 34) hk (.iconst 1) 1 rfl rfl rfl ?_
        refine ev_op (st' := [.int (a1 + 1), .ref 247]) (pc' := 35) hk (.iadd) 1 rfl rfl rfl ?_
        refine ev_ls (L' := [some (.ref 247), some (.int a1), some (.int a2), some (.int v2)]) (st' := [.int a2, .int (a1 + 1), .ref 247]) (pc' := 36) hk (.iload_n 2) 1 rfl rfl rfl rfl ?_
        obtain ⟨v5, hc6, hx⟩ := bnd_some hx
        refine ev_cv 82 2 [.int (b2i v5)] 39 hk rfl rfl rfl rfl lk_model rfl rfl rfl (rM_isFar hc6) rfl rfl rfl rfl ?_
        refine ev_d1 44 42 hk rfl rfl rfl rfl (px_beq hx (fun hc hx => ?_) (fun hc hx => ?_))
        · refine ev_ls (L' := [some (.ref 247), some (.int a1), some (.int a2), some (.int v2)]) (st' := [.ref 247]) (pc' := 45) hk (.aload_n 0) 1 rfl rfl rfl rfl ?_
          refine ev_ls (L' := [some (.ref 247), some (.int a1), some (.int a2), some (.int v2)]) (st' := [.int a1, .ref 247]) (pc' := 46) hk (.iload_n 1) 1 rfl rfl rfl rfl ?_
          refine ev_ls (L' := [some (.ref 247), some (.int a1), some (.int a2), some (.int v2)]) (st' := [.int a2, .int a1, .ref 247]) (pc' := 47) hk (.iload_n 2) 1 rfl rfl rfl rfl ?_
          obtain ⟨v7, hc8, hx⟩ := bnd_some hx
          refine ev_cv 201 2 [.int (b2i v7)] 50 hk rfl rfl rfl rfl lk_model rfl rfl rfl (rM_wouldBeCrossed hc8) rfl rfl rfl rfl ?_
          refine ev_d1 55 53 hk rfl rfl rfl rfl (px_beq hx (fun hc hx => ?_) (fun hc hx => ?_))
          · refine ev_ls (L' := [some (.ref 247), some (.int a1), some (.int a2), some (.int v2)]) (st' := [.ref 247]) (pc' := 56) hk (.aload_n 0) 1 rfl rfl rfl rfl ?_
            refine ev_gf (.ref 249) 59 hk rfl rfl lk_model rfl rfl ?_
            refine ev_op (st' := [.int 3, .ref 249]) (pc' := 60) hk (.iconst 3) 1 rfl rfl rfl ?_
            refine ev_ial (v := ((mA M 249) 3)) rfl 61 hk rfl lk_m249 rfl ?_
            refine ev_ls (L' := [some (.ref 247), some (.int a1), some (.int a2), some (.int v2)]) (st' := [.int v2, .int ((mA M 249) 3)]) (pc' := 62) hk (.iload_n 3) 1 rfl rfl rfl rfl ?_
            refine ev_ls (L' := [some (.ref 247), some (.int a1), some (.int a2), some (.int v2)]) (st' := [.int a2, .int v2, .int ((mA M 249) 3)]) (pc' := 63) hk (.iload_n 2) 1 rfl rfl rfl rfl ?_
            refine ev_cs 181 2 [.int (fM_threadFor v2 a2), .int ((mA M 249) 3)] 66 hk rfl rfl (by decide) rfl rfl rfl (rM_threadFor rfl) rfl rfl rfl rfl ?_
            refine ev_d2 73 69 hk rfl rfl rfl rfl (px_cge hx (fun hc hx => ?_) (fun hc hx => ?_))
            · refine ev_op (st' := [.int 0]) (pc' := 74) hk (.iconst 0) 1 rfl rfl rfl ?_
              cases hx
              obtain rfl := hM
              exact ev_retI hk rfl rfl
            · refine ev_op (st' := [.int 4]) (pc' := 70) hk (.iconst 4) 1 rfl rfl rfl ?_
              refine ev_jp (pc' := 74) (st' := [.int 4]) hk (.goto 4) 3 rfl rfl rfl rfl rfl ?_
              cases hx
              obtain rfl := hM
              exact ev_retI hk rfl rfl
          · refine ev_op (st' := [.int 3]) (pc' := 54) hk (.iconst 3) 1 rfl rfl rfl ?_
            cases hx
            obtain rfl := hM
            exact ev_retI hk rfl rfl
        · refine ev_op (st' := [.int 2]) (pc' := 43) hk (.iconst 2) 1 rfl rfl rfl ?_
          cases hx
          obtain rfl := hM
          exact ev_retI hk rfl rfl
    · refine ev_op (st' := [.int 1]) (pc' := 19) hk (.iconst 1) 1 rfl rfl rfl ?_
      cases hx
      obtain rfl := hM
      exact ev_retI hk rfl rfl
def qM_movesHem_62 (S : Nat) (xs : Nat → Int32) (I : zI) (C : zC) (Y : Nat → Int32) (Γ : Nat → zG) (D : zD) (O : Nat → Int32) (ou : Nat → Int64) (od : Nat → UInt64) (j : Nat) (a1 : Int32) (a2 : Int32) (a3 : Int32) (a4 : Int32) (a5 : Int32) (y : (Option Value ⊕ String) × px_H) (s : zM × Int32 × Int32) : Prop := Ev S xs 138 62 [some (.ref 247), some (.int a1), some (.int a2), some (.int a3), some (.int a4), some (.int a5), some (.int s.2.1), some (.int s.2.2)] [] (zH I C Y Γ D O s.1 ou od j) y
set_option maxRecDepth 4000 in
theorem rM_movesHem_j141 {S : Nat} {xs : Nat → Int32} {I : zI} {C : zC} {Y : Nat → Int32} {Γ : Nat → zG} {D : zD} {O : Nat → Int32} {M : zM} {ou : Nat → Int64} {od : Nat → UInt64} {j : Nat} {a1 : Int32} {a2 : Int32} {a3 : Int32} {a4 : Int32} {a5 : Int32} {a6 : Int32} {a7 : Int32} {a0t : Int32} {a1t : Int32} {a2t : Int32} {y : (Option Value ⊕ String) × px_H} {x : (zM × Int32 × Int32) ⊕ (Int32 × zM)}  (hx : fM_movesHem_j141 M a1 a2 a3 a4 a5 a6 a7 a0t a1t a2t = some x) (hM : (Sum.elim (qM_movesHem_62 S xs I C Y Γ D O ou od j a1 a2 a3 a4 a5 y) (fun X : Int32 × zM => y = (((.inl (some (.int X.1))), (zH I C Y Γ D O X.2 ou od j)) : (Option Value ⊕ String) × px_H))) x)  : Ev S xs 138 141 [some (.ref 247), some (.int a1), some (.int a2), some (.int a3), some (.int a4), some (.int a5), some (.int a6), some (.int a7)] [.int a0t, .int a1t, .int a2t, .ref 249] (zH I C Y Γ D O M ou od j) y := by
  have hk : pt_mt[138]? = some pt_r138 := rfl
  unfold fM_movesHem_j141 at hx
  refine ev_op (st' := [.int (a1t + a0t), .int a2t, .ref 249]) (pc' := 142) hk (.iadd) 1 rfl rfl rfl ?_
  obtain ⟨A17, hA17, hx⟩ := bnd_some hx
  obtain ⟨M18, hM18, hx⟩ := bnd_some hx
  have hM18 := Option.some.inj hM18
  refine ev_ias hA17 143 hk rfl lk_m249 (sa_m249 hM18) rfl ?_
  refine ev_ls (L' := [some (.ref 247), some (.int a1), some (.int a2), some (.int a3), some (.int a4), some (.int a5), some (.int (a6 + 1)), some (.int a7)]) (st' := []) (pc' := 146) hk (.iinc 6 1) 3 rfl rfl rfl rfl ?_
  refine ev_ls (L' := [some (.ref 247), some (.int a1), some (.int a2), some (.int a3), some (.int a4), some (.int a5), some (.int (a6 + 1)), some (.int (a7 + 1))]) (st' := []) (pc' := 149) hk (.iinc 7 1) 3 rfl rfl rfl rfl ?_
  refine ev_jp (pc' := 62) (st' := []) hk (.goto (-87)) 3 rfl rfl rfl rfl rfl ?_
  cases hx
  exact hM
set_option maxRecDepth 4000 in
theorem rM_movesHem_b62 {S : Nat} {xs : Nat → Int32} {I : zI} {C : zC} {Y : Nat → Int32} {Γ : Nat → zG} {D : zD} {O : Nat → Int32} {ou : Nat → Int64} {od : Nat → UInt64} {j : Nat} {a1 : Int32} {a2 : Int32} {a3 : Int32} {a4 : Int32} {a5 : Int32} {y : (Option Value ⊕ String) × px_H} {s : zM × Int32 × Int32} {x : (zM × Int32 × Int32) ⊕ (Int32 × zM)}  (hx : fM_movesHem_b62 a1 a2 a3 a4 a5 s.1 s.2.1 s.2.2 = some x) (hM : (Sum.elim (qM_movesHem_62 S xs I C Y Γ D O ou od j a1 a2 a3 a4 a5 y) (fun X : Int32 × zM => y = (((.inl (some (.int X.1))), (zH I C Y Γ D O X.2 ou od j)) : (Option Value ⊕ String) × px_H))) x) : qM_movesHem_62 S xs I C Y Γ D O ou od j a1 a2 a3 a4 a5 y s := by
  obtain ⟨M, a6, a7⟩ := s
  have hk : pt_mt[138]? = some pt_r138 := rfl
  unfold fM_movesHem_b62 at hx
  try dsimp only at hx
  refine ev_ls (L' := [some (.ref 247), some (.int a1), some (.int a2), some (.int a3), some (.int a4), some (.int a5), some (.int a6), some (.int a7)]) (st' := [.int a7]) (pc' := 64) hk (.iload 7) 2 rfl rfl rfl rfl ?_
  refine ev_ls (L' := [some (.ref 247), some (.int a1), some (.int a2), some (.int a3), some (.int a4), some (.int a5), some (.int a6), some (.int a7)]) (st' := [.ref 247, .int a7]) (pc' := 65) hk (.aload_n 0) 1 rfl rfl rfl rfl ?_
  refine ev_gf (.ref 249) 68 hk rfl rfl lk_model rfl rfl ?_
  refine ev_op (st' := [.int 1, .ref 249, .int a7]) (pc' := 69) hk (.iconst 1) 1 rfl rfl rfl ?_
  refine ev_ial (v := ((mA M 249) 1)) rfl 70 hk rfl lk_m249 rfl ?_
  refine ev_d2 152 73 hk rfl rfl rfl rfl (px_cge hx (fun hc hx => ?_) (fun hc hx => ?_))
  · refine ev_ls (L' := [some (.ref 247), some (.int a1), some (.int a2), some (.int a3), some (.int a4), some (.int a5), some (.int a6), some (.int a7)]) (st' := [.int a6]) (pc' := 154) hk (.iload 6) 2 rfl rfl rfl rfl ?_
    cases hx
    obtain rfl := hM
    exact ev_retI hk rfl rfl
  · refine ev_ls (L' := [some (.ref 247), some (.int a1), some (.int a2), some (.int a3), some (.int a4), some (.int a5), some (.int a6), some (.int a7)]) (st' := [.ref 247]) (pc' := 74) hk (.aload_n 0) 1 rfl rfl rfl rfl ?_
    refine ev_ls (L' := [some (.ref 247), some (.int a1), some (.int a2), some (.int a3), some (.int a4), some (.int a5), some (.int a6), some (.int a7)]) (st' := [.int a7, .ref 247]) (pc' := 76) hk (.iload 7) 2 rfl rfl rfl rfl ?_
    obtain ⟨v19, hc20, hx⟩ := bnd_some hx
    refine ev_cv 187 1 [.int (b2i v19)] 79 hk rfl rfl rfl rfl lk_model rfl rfl rfl (rM_travels hc20) rfl rfl rfl rfl ?_
    refine ev_d1 146 82 hk rfl rfl rfl rfl (px_beq hx (fun hc hx => ?_) (fun hc hx => ?_))
    · refine ev_ls (L' := [some (.ref 247), some (.int a1), some (.int a2), some (.int a3), some (.int a4), some (.int a5), some (.int a6), some (.int (a7 + 1))]) (st' := []) (pc' := 149) hk (.iinc 7 1) 3 rfl rfl rfl rfl ?_
      refine ev_jp (pc' := 62) (st' := []) hk (.goto (-87)) 3 rfl rfl rfl rfl rfl ?_
      cases hx
      exact hM
    · refine ev_ls (L' := [some (.ref 247), some (.int a1), some (.int a2), some (.int a3), some (.int a4), some (.int a5), some (.int a6), some (.int a7)]) (st' := [.ref 247]) (pc' := 83) hk (.aload_n 0) 1 rfl rfl rfl rfl ?_
      refine ev_ls (L' := [some (.ref 247), some (.int a1), some (.int a2), some (.int a3), some (.int a4), some (.int a5), some (.int a6), some (.int a7)]) (st' := [.int a7, .ref 247]) (pc' := 85) hk (.iload 7) 2 rfl rfl rfl rfl ?_
      refine ev_op (st' := [.int 3, .int a7, .ref 247]) (pc' := 86) hk (.iconst 3) 1 rfl rfl rfl ?_
      obtain ⟨v21, hc22, hx⟩ := bnd_some hx
      refine ev_cv 145 2 [.int v21] 89 hk rfl rfl rfl rfl lk_model rfl rfl rfl (rM_of hc22) rfl rfl rfl rfl ?_
      refine ev_ls (L' := [some (.ref 247), some (.int a1), some (.int a2), some (.int a3), some (.int a4), some (.int a5), some (.int a6), some (.int a7)]) (st' := [.int a1, .int v21]) (pc' := 90) hk (.iload_n 1) 1 rfl rfl rfl rfl ?_
      refine ev_d2 146 93 hk rfl rfl rfl rfl (px_cne hx (fun hc hx => ?_) (fun hc hx => ?_))
      · refine ev_ls (L' := [some (.ref 247), some (.int a1), some (.int a2), some (.int a3), some (.int a4), some (.int a5), some (.int a6), some (.int (a7 + 1))]) (st' := []) (pc' := 149) hk (.iinc 7 1) 3 rfl rfl rfl rfl ?_
        refine ev_jp (pc' := 62) (st' := []) hk (.goto (-87)) 3 rfl rfl rfl rfl rfl ?_
        cases hx
        exact hM
      · refine ev_ls (L' := [some (.ref 247), some (.int a1), some (.int a2), some (.int a3), some (.int a4), some (.int a5), some (.int a6), some (.int a7)]) (st' := [.ref 247]) (pc' := 94) hk (.aload_n 0) 1 rfl rfl rfl rfl ?_
        refine ev_ls (L' := [some (.ref 247), some (.int a1), some (.int a2), some (.int a3), some (.int a4), some (.int a5), some (.int a6), some (.int a7)]) (st' := [.int a7, .ref 247]) (pc' := 96) hk (.iload 7) 2 rfl rfl rfl rfl ?_
        refine ev_op (st' := [.int 4, .int a7, .ref 247]) (pc' := 97) hk (.iconst 4) 1 rfl rfl rfl ?_
        obtain ⟨v23, hc24, hx⟩ := bnd_some hx
        refine ev_cv 145 2 [.int v23] 100 hk rfl rfl rfl rfl lk_model rfl rfl rfl (rM_of hc24) rfl rfl rfl rfl ?_
        refine ev_op (st' := [.long (Int32.toInt64 v23)]) (pc' := 101) hk (.i2l) 1 rfl rfl rfl ?_
        refine ev_ls (L' := [some (.ref 247), some (.int a1), some (.int a2), some (.int a3), some (.int a4), some (.int a5), some (.int a6), some (.int a7)]) (st' := [.int a4, .long (Int32.toInt64 v23)]) (pc' := 103) hk (.iload 4) 2 rfl rfl rfl rfl ?_
        refine ev_op (st' := [.long (Int32.toInt64 a4), .long (Int32.toInt64 v23)]) (pc' := 104) hk (.i2l) 1 rfl rfl rfl ?_
        refine ev_ls (L' := [some (.ref 247), some (.int a1), some (.int a2), some (.int a3), some (.int a4), some (.int a5), some (.int a6), some (.int a7)]) (st' := [.int a5, .long (Int32.toInt64 a4), .long (Int32.toInt64 v23)]) (pc' := 106) hk (.iload 5) 2 rfl rfl rfl rfl ?_
        refine ev_op (st' := [.int 1, .int a5, .long (Int32.toInt64 a4), .long (Int32.toInt64 v23)]) (pc' := 107) hk (.iconst 1) 1 rfl rfl rfl ?_
        refine ev_op (st' := [.int (a5 - 1), .long (Int32.toInt64 a4), .long (Int32.toInt64 v23)]) (pc' := 108) hk (.isub) 1 rfl rfl rfl ?_
        refine ev_op (st' := [.long (Int32.toInt64 (a5 - 1)), .long (Int32.toInt64 a4), .long (Int32.toInt64 v23)]) (pc' := 109) hk (.i2l) 1 rfl rfl rfl ?_
        refine ev_cs 86 3 [.int (b2i (fM_isIn (Int32.toInt64 v23) (Int32.toInt64 a4) (Int32.toInt64 (a5 - 1))))] 112 hk rfl rfl (by decide) rfl rfl rfl (rM_isIn rfl) rfl rfl rfl rfl ?_
        refine ev_d1 118 115 hk rfl rfl rfl rfl (px_bne hx (fun hc hx => ?_) (fun hc hx => ?_))
        · refine ev_ls (L' := [some (.ref 247), some (.int a1), some (.int a2), some (.int a3), some (.int a4), some (.int a5), some (.int a6), some (.int a7)]) (st' := [.ref 247]) (pc' := 119) hk (.aload_n 0) 1 rfl rfl rfl rfl ?_
          refine ev_gf (.ref 249) 122 hk rfl rfl lk_model rfl rfl ?_
          refine ev_ls (L' := [some (.ref 247), some (.int a1), some (.int a2), some (.int a3), some (.int a4), some (.int a5), some (.int a6), some (.int a7)]) (st' := [.int a7, .ref 249]) (pc' := 124) hk (.iload 7) 2 rfl rfl rfl rfl ?_
          refine ev_cs 168 1 [.int (fM_spt a7), .ref 249] 127 hk rfl rfl (by decide) rfl rfl rfl (rM_spt rfl) rfl rfl rfl rfl ?_
          refine ev_op (st' := [.int 5, .int (fM_spt a7), .ref 249]) (pc' := 128) hk (.iconst 5) 1 rfl rfl rfl ?_
          refine ev_op (st' := [.int ((fM_spt a7) + 5), .ref 249]) (pc' := 129) hk (.iadd) 1 rfl rfl rfl ?_
          refine ev_op (st' := [.int ((fM_spt a7) + 5), .ref 249, .int ((fM_spt a7) + 5), .ref 249]) (pc' := 130) hk (.dup2) 1 rfl rfl rfl ?_
          obtain ⟨v25, hv25, hx⟩ := bnd_some hx
          refine ev_ial hv25 131 hk rfl lk_m249 rfl ?_
          refine ev_ls (L' := [some (.ref 247), some (.int a1), some (.int a2), some (.int a3), some (.int a4), some (.int a5), some (.int a6), some (.int a7)]) (st' := [.int a3, .int v25, .int ((fM_spt a7) + 5), .ref 249]) (pc' := 132) hk (.iload_n 3) 1 rfl rfl rfl rfl ?_
          refine ev_ls (L' := [some (.ref 247), some (.int a1), some (.int a2), some (.int a3), some (.int a4), some (.int a5), some (.int a6), some (.int a7)]) (st' := [.int a2, .int a3, .int v25, .int ((fM_spt a7) + 5), .ref 249]) (pc' := 133) hk (.iload_n 2) 1 rfl rfl rfl rfl ?_
          refine ev_d2 140 136 hk rfl rfl rfl rfl (px_cge hx (fun hc hx => ?_) (fun hc hx => ?_))
          · refine ev_op (st' := [.int (-1), .int v25, .int ((fM_spt a7) + 5), .ref 249]) (pc' := 141) hk (.iconst (-1)) 1 rfl rfl rfl ?_
            exact rM_movesHem_j141 hx hM 
          · refine ev_op (st' := [.int 1, .int v25, .int ((fM_spt a7) + 5), .ref 249]) (pc' := 137) hk (.iconst 1) 1 rfl rfl rfl ?_
            refine ev_jp (pc' := 141) (st' := [.int 1, .int v25, .int ((fM_spt a7) + 5), .ref 249]) hk (.goto 4) 3 rfl rfl rfl rfl rfl ?_
            exact rM_movesHem_j141 hx hM 
        · refine ev_jp (pc' := 146) (st' := []) hk (.goto 31) 3 rfl rfl rfl rfl rfl ?_
          refine ev_ls (L' := [some (.ref 247), some (.int a1), some (.int a2), some (.int a3), some (.int a4), some (.int a5), some (.int a6), some (.int (a7 + 1))]) (st' := []) (pc' := 149) hk (.iinc 7 1) 3 rfl rfl rfl rfl ?_
          refine ev_jp (pc' := 62) (st' := []) hk (.goto (-87)) 3 rfl rfl rfl rfl rfl ?_
          cases hx
          exact hM
set_option maxRecDepth 4000 in
theorem rM_movesHem_j31 {S : Nat} {xs : Nat → Int32} {I : zI} {C : zC} {Y : Nat → Int32} {Γ : Nat → zG} {D : zD} {O : Nat → Int32} {M : zM} {ou : Nat → Int64} {od : Nat → UInt64} {j : Nat} {a1 : Int32} {a2 : Int32} {a3 : Int32} {a4 : Int32} {a0t : Int32} {y : (Option Value ⊕ String) × px_H} {x : Int32 × zM}  (hx : fM_movesHem_j31 M a1 a2 a3 a4 a0t = some x) (hM : (fun X : Int32 × zM => y = (((.inl (some (.int X.1))), (zH I C Y Γ D O X.2 ou od j)) : (Option Value ⊕ String) × px_H)) x)  : Ev S xs 138 31 [some (.ref 247), some (.int a1), some (.int a2), some (.int a3), some (.int a4), none, none, none] [.int a0t] (zH I C Y Γ D O M ou od j) y := by
  have hk : pt_mt[138]? = some pt_r138 := rfl
  unfold fM_movesHem_j31 at hx
  refine ev_ls (L' := [some (.ref 247), some (.int a1), some (.int a2), some (.int a3), some (.int a4), some (.int a0t), none, none]) (st' := []) (pc' := 33) hk (.istore 5) 2 rfl rfl rfl rfl ?_
  refine ev_ls (L' := [some (.ref 247), some (.int a1), some (.int a2), some (.int a3), some (.int a4), some (.int a0t), none, none]) (st' := [.ref 247]) (pc' := 34) hk (.aload_n 0) 1 rfl rfl rfl rfl ?_
  refine ev_gf (.ref 249) 37 hk rfl rfl lk_model rfl rfl ?_
  refine ev_op (st' := [.int 3, .ref 249]) (pc' := 38) hk (.iconst 3) 1 rfl rfl rfl ?_
  refine ev_op (st' := [.int 3, .ref 249, .int 3, .ref 249]) (pc' := 39) hk (.dup2) 1 rfl rfl rfl ?_
  refine ev_ial (v := ((mA M 249) 3)) rfl 40 hk rfl lk_m249 rfl ?_
  refine ev_ls (L' := [some (.ref 247), some (.int a1), some (.int a2), some (.int a3), some (.int a4), some (.int a0t), none, none]) (st' := [.int a3, .int ((mA M 249) 3), .int 3, .ref 249]) (pc' := 41) hk (.iload_n 3) 1 rfl rfl rfl rfl ?_
  refine ev_ls (L' := [some (.ref 247), some (.int a1), some (.int a2), some (.int a3), some (.int a4), some (.int a0t), none, none]) (st' := [.int a2, .int a3, .int ((mA M 249) 3), .int 3, .ref 249]) (pc' := 42) hk (.iload_n 2) 1 rfl rfl rfl rfl ?_
  refine ev_cs 181 2 [.int (fM_threadFor a3 a2), .int ((mA M 249) 3), .int 3, .ref 249] 45 hk rfl rfl (by decide) rfl rfl rfl (rM_threadFor rfl) rfl rfl rfl rfl ?_
  refine ev_op (st' := [.int (((mA M 249) 3) - (fM_threadFor a3 a2)), .int 3, .ref 249]) (pc' := 46) hk (.isub) 1 rfl rfl rfl ?_
  obtain ⟨M14, hM14, hx⟩ := bnd_some hx
  have hM14 := Option.some.inj hM14
  refine ev_ias (A := (upd (mA M 249) 3 (((mA M 249) 3) - (fM_threadFor a3 a2)))) rfl 47 hk rfl lk_m249 (sa_m249 hM14) rfl ?_
  refine ev_ls (L' := [some (.ref 247), some (.int a1), some (.int a2), some (.int a3), some (.int a4), some (.int a0t), none, none]) (st' := [.ref 247]) (pc' := 48) hk (.aload_n 0) 1 rfl rfl rfl rfl ?_
  refine ev_gf (.ref 249) 51 hk rfl rfl lk_model rfl rfl ?_
  refine ev_op (st' := [.int 5, .ref 249]) (pc' := 52) hk (.iconst 5) 1 rfl rfl rfl ?_
  refine ev_ls (L' := [some (.ref 247), some (.int a1), some (.int a2), some (.int a3), some (.int a4), some (.int a0t), none, none]) (st' := [.int a1, .int 5, .ref 249]) (pc' := 53) hk (.iload_n 1) 1 rfl rfl rfl rfl ?_
  refine ev_op (st' := [.int (5 + a1), .ref 249]) (pc' := 54) hk (.iadd) 1 rfl rfl rfl ?_
  refine ev_ls (L' := [some (.ref 247), some (.int a1), some (.int a2), some (.int a3), some (.int a4), some (.int a0t), none, none]) (st' := [.int a2, .int (5 + a1), .ref 249]) (pc' := 55) hk (.iload_n 2) 1 rfl rfl rfl rfl ?_
  obtain ⟨A15, hA15, hx⟩ := bnd_some hx
  obtain ⟨M16, hM16, hx⟩ := bnd_some hx
  have hM16 := Option.some.inj hM16
  refine ev_ias hA15 56 hk rfl lk_m249 (sa_m249 hM16) rfl ?_
  refine ev_op (st' := [.int 0]) (pc' := 57) hk (.iconst 0) 1 rfl rfl rfl ?_
  refine ev_ls (L' := [some (.ref 247), some (.int a1), some (.int a2), some (.int a3), some (.int a4), some (.int a0t), some (.int 0), none]) (st' := []) (pc' := 59) hk (.istore 6) 2 rfl rfl rfl rfl ?_
  refine ev_op (st' := [.int 0]) (pc' := 60) hk (.iconst 0) 1 rfl rfl rfl ?_
  refine ev_ls (L' := [some (.ref 247), some (.int a1), some (.int a2), some (.int a3), some (.int a4), some (.int a0t), some (.int 0), some (.int 0)]) (st' := []) (pc' := 62) hk (.istore 7) 2 rfl rfl rfl rfl ?_
  exact ev_iter (qM_movesHem_62 S xs I C Y Γ D O ou od j a1 a2 a3 a4 a0t _) (fun X : Int32 × zM => y = (((.inl (some (.int X.1))), (zH I C Y Γ D O X.2 ou od j)) : (Option Value ⊕ String) × px_H)) (fun s x hb hM => rM_movesHem_b62 hb hM) fu _ _ hx hM 
set_option maxRecDepth 4000 in
theorem rM_movesHem_j19 {S : Nat} {xs : Nat → Int32} {I : zI} {C : zC} {Y : Nat → Int32} {Γ : Nat → zG} {D : zD} {O : Nat → Int32} {M : zM} {ou : Nat → Int64} {od : Nat → UInt64} {j : Nat} {a1 : Int32} {a2 : Int32} {a3 : Int32} {a0t : Int32} {y : (Option Value ⊕ String) × px_H} {x : Int32 × zM}  (hx : fM_movesHem_j19 M a1 a2 a3 a0t = some x) (hM : (fun X : Int32 × zM => y = (((.inl (some (.int X.1))), (zH I C Y Γ D O X.2 ou od j)) : (Option Value ⊕ String) × px_H)) x)  : Ev S xs 138 19 [some (.ref 247), some (.int a1), some (.int a2), some (.int a3), none, none, none, none] [.int a0t] (zH I C Y Γ D O M ou od j) y := by
  have hk : pt_mt[138]? = some pt_r138 := rfl
  unfold fM_movesHem_j19 at hx
  refine ev_ls (L' := [some (.ref 247), some (.int a1), some (.int a2), some (.int a3), some (.int a0t), none, none, none]) (st' := []) (pc' := 21) hk (.istore 4) 2 rfl rfl rfl rfl ?_
  refine ev_ls (L' := [some (.ref 247), some (.int a1), some (.int a2), some (.int a3), some (.int a0t), none, none, none]) (st' := [.int a3]) (pc' := 22) hk (.iload_n 3) 1 rfl rfl rfl rfl ?_
  refine ev_ls (L' := [some (.ref 247), some (.int a1), some (.int a2), some (.int a3), some (.int a0t), none, none, none]) (st' := [.int a2, .int a3]) (pc' := 23) hk (.iload_n 2) 1 rfl rfl rfl rfl ?_
  refine ev_d2 30 26 hk rfl rfl rfl rfl (px_cge hx (fun hc hx => ?_) (fun hc hx => ?_))
  · refine ev_ls (L' := [some (.ref 247), some (.int a1), some (.int a2), some (.int a3), some (.int a0t), none, none, none]) (st' := [.int a3]) (pc' := 31) hk (.iload_n 3) 1 rfl rfl rfl rfl ?_
    exact rM_movesHem_j31 hx hM 
  · refine ev_ls (L' := [some (.ref 247), some (.int a1), some (.int a2), some (.int a3), some (.int a0t), none, none, none]) (st' := [.int a2]) (pc' := 27) hk (.iload_n 2) 1 rfl rfl rfl rfl ?_
    refine ev_jp (pc' := 31) (st' := [.int a2]) hk (.goto 4) 3 rfl rfl rfl rfl rfl ?_
    exact rM_movesHem_j31 hx hM 

/-! THE ROWS of the methods: each function is what the pure machine does (9) -/
set_option maxRecDepth 2000 in
theorem rM_more {S : Nat} {xs : Nat → Int32} {I : zI} {C : zC} {Y : Nat → Int32} {Γ : Nat → zG} {D : zD} {O : Nat → Int32} {M : zM} {ou : Nat → Int64} {od : Nat → UInt64} {j : Nat} {a1 : Int32} {a2 : Int32} {X : Int32 × zM}   (hx : fM_more M a1 a2 = some X) : Ev S xs 136 0 [some (.ref 247), some (.int a1), some (.int a2)] [] (zH I C Y Γ D O M ou od j) (((.inl (some (.int X.1))), (zH I C Y Γ D O X.2 ou od j)) : (Option Value ⊕ String) × px_H) := by
  generalize hM : (((.inl (some (.int X.1))), (zH I C Y Γ D O X.2 ou od j)) : (Option Value ⊕ String) × px_H) = y
  replace hM := hM.symm
  have hk : pt_mt[136]? = some pt_r136 := rfl
  unfold fM_more at hx
  refine ev_ls (L' := [some (.ref 247), some (.int a1), some (.int a2)]) (st' := [.ref 247]) (pc' := 1) hk (.aload_n 0) 1 rfl rfl rfl rfl ?_
  refine ev_cv 84 0 [.int (b2i (fM_isGood M))] 4 hk rfl rfl rfl rfl lk_model rfl rfl rfl (rM_isGood rfl) rfl rfl rfl rfl ?_
  refine ev_d1 16 7 hk rfl rfl rfl rfl (px_beq hx (fun hc hx => ?_) (fun hc hx => ?_))
  · refine ev_ls (L' := [some (.ref 247), some (.int a1), some (.int a2)]) (st' := [.int a1]) (pc' := 17) hk (.iload_n 1) 1 rfl rfl rfl rfl ?_
    cases hx
    obtain rfl := hM
    exact ev_retI hk rfl rfl
  · refine ev_ls (L' := [some (.ref 247), some (.int a1), some (.int a2)]) (st' := [.ref 247]) (pc' := 8) hk (.aload_n 0) 1 rfl rfl rfl rfl ?_
    refine ev_ls (L' := [some (.ref 247), some (.int a1), some (.int a2)]) (st' := [.int a1, .ref 247]) (pc' := 9) hk (.iload_n 1) 1 rfl rfl rfl rfl ?_
    refine ev_ls (L' := [some (.ref 247), some (.int a1), some (.int a2)]) (st' := [.int a2, .int a1, .ref 247]) (pc' := 10) hk (.iload_n 2) 1 rfl rfl rfl rfl ?_
    obtain ⟨v2, M1, hc3, hx⟩ := bnd2_some hx
    refine ev_cv 144 2 [.int v2] 13 hk rfl rfl rfl rfl lk_model rfl rfl rfl (rM_number hc3) rfl rfl rfl rfl ?_
    refine ev_jp (pc' := 17) (st' := [.int v2]) hk (.goto 4) 3 rfl rfl rfl rfl rfl ?_
    cases hx
    obtain rfl := hM
    exact ev_retI hk rfl rfl
set_option maxRecDepth 4000 in
theorem rM_readsRest_j59 {S : Nat} {xs : Nat → Int32} {I : zI} {C : zC} {Y : Nat → Int32} {Γ : Nat → zG} {D : zD} {O : Nat → Int32} {M : zM} {ou : Nat → Int64} {od : Nat → UInt64} {j : Nat} {a1 : Int32} {a2 : Int32} {y : (Option Value ⊕ String) × px_H} {x : zM}  (hx : fM_readsRest_j59 M a1 a2 = some x) (hM : (fun X : zM => y = (((.inl none), (zH I C Y Γ D O X ou od j)) : (Option Value ⊕ String) × px_H)) x)  : Ev S xs 154 59 [some (.ref 247), some (.int a1), some (.int a2)] [] (zH I C Y Γ D O M ou od j) y := by
  have hk : pt_mt[154]? = some pt_r154 := rfl
  unfold fM_readsRest_j59 at hx
  refine ev_ls (L' := [some (.ref 247), some (.int a1), some (.int a2)]) (st' := [.int a2]) (pc' := 60) hk (.iload_n 2) 1 rfl rfl rfl rfl ?_
  refine ev_op (st' := [.int 3, .int a2]) (pc' := 61) hk (.iconst 3) 1 rfl rfl rfl ?_
  refine ev_d2 78 64 hk rfl rfl rfl rfl (px_cne hx (fun hc hx => ?_) (fun hc hx => ?_))
  · cases hx
    obtain rfl := hM
    exact ev_retv hk rfl rfl
  · refine ev_ls (L' := [some (.ref 247), some (.int a1), some (.int a2)]) (st' := [.ref 247]) (pc' := 65) hk (.aload_n 0) 1 rfl rfl rfl rfl ?_
    refine ev_gf (.ref 257) 68 hk rfl rfl lk_model rfl rfl ?_
    refine ev_ls (L' := [some (.ref 247), some (.int a1), some (.int a2)]) (st' := [.int a1, .ref 257]) (pc' := 69) hk (.iload_n 1) 1 rfl rfl rfl rfl ?_
    refine ev_ls (L' := [some (.ref 247), some (.int a1), some (.int a2)]) (st' := [.ref 247, .int a1, .ref 257]) (pc' := 70) hk (.aload_n 0) 1 rfl rfl rfl rfl ?_
    refine ev_op (st' := [.int 0, .ref 247, .int a1, .ref 257]) (pc' := 71) hk (.iconst 0) 1 rfl rfl rfl ?_
    refine ev_op (st' := [.int 9999, .int 0, .ref 247, .int a1, .ref 257]) (pc' := 74) hk (.sipush 9999) 3 rfl rfl rfl ?_
    obtain ⟨v10, M9, hc11, hx⟩ := bnd2_some hx
    refine ev_cv 136 2 [.int v10, .int a1, .ref 257] 77 hk rfl rfl rfl rfl lk_model rfl rfl rfl (rM_more hc11) rfl rfl rfl rfl ?_
    obtain ⟨A12, hA12, hx⟩ := bnd_some hx
    obtain ⟨M13, hM13, hx⟩ := bnd_some hx
    have hM13 := Option.some.inj hM13
    refine ev_ias hA12 78 hk rfl lk_m257 (sa_m257 hM13) rfl ?_
    cases hx
    obtain rfl := hM
    exact ev_retv hk rfl rfl
set_option maxRecDepth 2000 in
theorem rM_readsRest {S : Nat} {xs : Nat → Int32} {I : zI} {C : zC} {Y : Nat → Int32} {Γ : Nat → zG} {D : zD} {O : Nat → Int32} {M : zM} {ou : Nat → Int64} {od : Nat → UInt64} {j : Nat} {a1 : Int32} {a2 : Int32} {X : zM}   (hx : fM_readsRest M a1 a2 = some X) : Ev S xs 154 0 [some (.ref 247), some (.int a1), some (.int a2)] [] (zH I C Y Γ D O M ou od j) (((.inl none), (zH I C Y Γ D O X ou od j)) : (Option Value ⊕ String) × px_H) := by
  generalize hM : (((.inl none), (zH I C Y Γ D O X ou od j)) : (Option Value ⊕ String) × px_H) = y
  replace hM := hM.symm
  have hk : pt_mt[154]? = some pt_r154 := rfl
  unfold fM_readsRest at hx
  refine ev_ls (L' := [some (.ref 247), some (.int a1), some (.int a2)]) (st' := [.int a2]) (pc' := 1) hk (.iload_n 2) 1 rfl rfl rfl rfl ?_
  refine ev_op (st' := [.int 6, .int a2]) (pc' := 3) hk (.bipush 6) 2 rfl rfl rfl ?_
  refine ev_d2 26 6 hk rfl rfl rfl rfl (px_cne hx (fun hc hx => ?_) (fun hc hx => ?_))
  · refine ev_ls (L' := [some (.ref 247), some (.int a1), some (.int a2)]) (st' := [.ref 247]) (pc' := 27) hk (.aload_n 0) 1 rfl rfl rfl rfl ?_
    refine ev_gf (.ref 255) 30 hk rfl rfl lk_model rfl rfl ?_
    refine ev_ls (L' := [some (.ref 247), some (.int a1), some (.int a2)]) (st' := [.int a1, .ref 255]) (pc' := 31) hk (.iload_n 1) 1 rfl rfl rfl rfl ?_
    refine ev_ls (L' := [some (.ref 247), some (.int a1), some (.int a2)]) (st' := [.ref 247, .int a1, .ref 255]) (pc' := 32) hk (.aload_n 0) 1 rfl rfl rfl rfl ?_
    refine ev_op (st' := [.int 0, .ref 247, .int a1, .ref 255]) (pc' := 33) hk (.iconst 0) 1 rfl rfl rfl ?_
    refine ev_op (st' := [.int 9999, .int 0, .ref 247, .int a1, .ref 255]) (pc' := 36) hk (.sipush 9999) 3 rfl rfl rfl ?_
    obtain ⟨v15, M14, hc16, hx⟩ := bnd2_some hx
    refine ev_cv 136 2 [.int v15, .int a1, .ref 255] 39 hk rfl rfl rfl rfl lk_model rfl rfl rfl (rM_more hc16) rfl rfl rfl rfl ?_
    obtain ⟨A17, hA17, hx⟩ := bnd_some hx
    obtain ⟨M18, hM18, hx⟩ := bnd_some hx
    have hM18 := Option.some.inj hM18
    refine ev_ias hA17 40 hk rfl lk_m255 (sa_m255 hM18) rfl ?_
    refine ev_ls (L' := [some (.ref 247), some (.int a1), some (.int a2)]) (st' := [.int a2]) (pc' := 41) hk (.iload_n 2) 1 rfl rfl rfl rfl ?_
    refine ev_op (st' := [.int 3, .int a2]) (pc' := 42) hk (.iconst 3) 1 rfl rfl rfl ?_
    refine ev_d2 59 45 hk rfl rfl rfl rfl (px_cgt hx (fun hc hx => ?_) (fun hc hx => ?_))
    · exact rM_readsRest_j59 hx hM 
    · refine ev_ls (L' := [some (.ref 247), some (.int a1), some (.int a2)]) (st' := [.ref 247]) (pc' := 46) hk (.aload_n 0) 1 rfl rfl rfl rfl ?_
      refine ev_gf (.ref 256) 49 hk rfl rfl lk_model rfl rfl ?_
      refine ev_ls (L' := [some (.ref 247), some (.int a1), some (.int a2)]) (st' := [.int a1, .ref 256]) (pc' := 50) hk (.iload_n 1) 1 rfl rfl rfl rfl ?_
      refine ev_ls (L' := [some (.ref 247), some (.int a1), some (.int a2)]) (st' := [.ref 247, .int a1, .ref 256]) (pc' := 51) hk (.aload_n 0) 1 rfl rfl rfl rfl ?_
      refine ev_op (st' := [.int 0, .ref 247, .int a1, .ref 256]) (pc' := 52) hk (.iconst 0) 1 rfl rfl rfl ?_
      refine ev_op (st' := [.int 9999, .int 0, .ref 247, .int a1, .ref 256]) (pc' := 55) hk (.sipush 9999) 3 rfl rfl rfl ?_
      obtain ⟨v20, M19, hc21, hx⟩ := bnd2_some hx
      refine ev_cv 136 2 [.int v20, .int a1, .ref 256] 58 hk rfl rfl rfl rfl lk_model rfl rfl rfl (rM_more hc21) rfl rfl rfl rfl ?_
      obtain ⟨A22, hA22, hx⟩ := bnd_some hx
      obtain ⟨M23, hM23, hx⟩ := bnd_some hx
      have hM23 := Option.some.inj hM23
      refine ev_ias hA22 59 hk rfl lk_m256 (sa_m256 hM23) rfl ?_
      exact rM_readsRest_j59 hx hM 
  · refine ev_ls (L' := [some (.ref 247), some (.int a1), some (.int a2)]) (st' := [.ref 247]) (pc' := 7) hk (.aload_n 0) 1 rfl rfl rfl rfl ?_
    refine ev_gf (.ref 255) 10 hk rfl rfl lk_model rfl rfl ?_
    refine ev_ls (L' := [some (.ref 247), some (.int a1), some (.int a2)]) (st' := [.int a1, .ref 255]) (pc' := 11) hk (.iload_n 1) 1 rfl rfl rfl rfl ?_
    refine ev_ls (L' := [some (.ref 247), some (.int a1), some (.int a2)]) (st' := [.ref 247, .int a1, .ref 255]) (pc' := 12) hk (.aload_n 0) 1 rfl rfl rfl rfl ?_
    refine ev_op (st' := [.int 1, .ref 247, .int a1, .ref 255]) (pc' := 13) hk (.iconst 1) 1 rfl rfl rfl ?_
    refine ev_op (st' := [.int 20, .int 1, .ref 247, .int a1, .ref 255]) (pc' := 15) hk (.bipush 20) 2 rfl rfl rfl ?_
    obtain ⟨v25, M24, hc26, hx⟩ := bnd2_some hx
    refine ev_cv 144 2 [.int v25, .int a1, .ref 255] 18 hk rfl rfl rfl rfl lk_model rfl rfl rfl (rM_number hc26) rfl rfl rfl rfl ?_
    obtain ⟨A27, hA27, hx⟩ := bnd_some hx
    obtain ⟨M28, hM28, hx⟩ := bnd_some hx
    have hM28 := Option.some.inj hM28
    refine ev_ias hA27 19 hk rfl lk_m255 (sa_m255 hM28) rfl ?_
    refine ev_ls (L' := [some (.ref 247), some (.int a1), some (.int a2)]) (st' := [.ref 247]) (pc' := 20) hk (.aload_n 0) 1 rfl rfl rfl rfl ?_
    refine ev_op (st' := [.int 40, .ref 247]) (pc' := 22) hk (.bipush 40) 2 rfl rfl rfl ?_
    obtain ⟨M29, hc30, hx⟩ := bnd_some hx
    refine ev_cv 139 1 [] 25 hk rfl rfl rfl rfl lk_model rfl rfl rfl (rM_mustSign hc30) rfl rfl rfl rfl ?_
    cases hx
    obtain rfl := hM
    exact ev_retv hk rfl rfl
set_option maxRecDepth 4000 in
theorem rM_command_j122 {S : Nat} {xs : Nat → Int32} {I : zI} {C : zC} {Y : Nat → Int32} {Γ : Nat → zG} {D : zD} {O : Nat → Int32} {M : zM} {ou : Nat → Int64} {od : Nat → UInt64} {j : Nat} {a0t : Bool} {a1t : Int32} {y : (Option Value ⊕ String) × px_H} {x : zM}  (hx : fM_command_j122 M a0t a1t = some x) (hM : (fun X : zM => y = (((.inl none), (zH I C Y Γ D O X ou od j)) : (Option Value ⊕ String) × px_H)) x) (u0 : Option Value) (hu0 : px_cz u0 = true) (u1 : Option Value) (hu1 : px_cz u1 = true) (u2 : Option Value) (hu2 : px_cz u2 = true) : Ev S xs 35 122 [u0, u1, u2] [.int (b2i a0t), .int a1t, .ref 247] (zH I C Y Γ D O M ou od j) y := by
  have hk : pt_mt[35]? = some pt_r35 := rfl
  unfold fM_command_j122 at hx
  refine ev_cs 189 1 [.int (fM_truth a0t), .int a1t, .ref 247] 125 hk rfl rfl (by decide) rfl rfl rfl (rM_truth rfl) rfl rfl rfl rfl ?_
  refine ev_op (st' := [.int (a1t + (fM_truth a0t)), .ref 247]) (pc' := 126) hk (.iadd) 1 rfl rfl rfl ?_
  obtain ⟨M19, hM19, hx⟩ := bnd_some hx
  have hM19 := Option.some.inj hM19
  refine ev_pf 129 hk rfl rfl lk_model rfl rfl rfl (sf_8_28 hM19) rfl ?_
  cases hx
  obtain rfl := hM
  exact ev_retv hk rfl rfl
set_option maxRecDepth 4000 in
theorem rM_command_j48 {S : Nat} {xs : Nat → Int32} {I : zI} {C : zC} {Y : Nat → Int32} {Γ : Nat → zG} {D : zD} {O : Nat → Int32} {M : zM} {ou : Nat → Int64} {od : Nat → UInt64} {j : Nat} {a1 : Int32} {y : (Option Value ⊕ String) × px_H} {x : zM}  (hx : fM_command_j48 M a1 = some x) (hM : (fun X : zM => y = (((.inl none), (zH I C Y Γ D O X ou od j)) : (Option Value ⊕ String) × px_H)) x)  : Ev S xs 35 48 [some (.ref 247), some (.int a1), none] [] (zH I C Y Γ D O M ou od j) y := by
  have hk : pt_mt[35]? = some pt_r35 := rfl
  unfold fM_command_j48 at hx
  refine ev_ls (L' := [some (.ref 247), some (.int a1), none]) (st' := [.ref 247]) (pc' := 49) hk (.aload_n 0) 1 rfl rfl rfl rfl ?_
  refine ev_cv 84 0 [.int (b2i (fM_isGood M))] 52 hk rfl rfl rfl rfl lk_model rfl rfl rfl (rM_isGood rfl) rfl rfl rfl rfl ?_
  refine ev_d1 56 55 hk rfl rfl rfl rfl (px_bne hx (fun hc hx => ?_) (fun hc hx => ?_))
  · refine ev_ls (L' := [some (.ref 247), some (.int a1), none]) (st' := [.ref 247]) (pc' := 57) hk (.aload_n 0) 1 rfl rfl rfl rfl ?_
    refine ev_op (st' := [.ref 247, .ref 247]) (pc' := 58) hk (.dup) 1 rfl rfl rfl ?_
    refine ev_gf (.int (mF M 27)) 61 hk rfl rfl lk_model rfl rfl ?_
    refine ev_op (st' := [.int 1, .int (mF M 27), .ref 247]) (pc' := 62) hk (.iconst 1) 1 rfl rfl rfl ?_
    refine ev_op (st' := [.int ((mF M 27) + 1), .ref 247]) (pc' := 63) hk (.iadd) 1 rfl rfl rfl ?_
    obtain ⟨M11, hM11, hx⟩ := bnd_some hx
    have hM11 := Option.some.inj hM11
    refine ev_pf 66 hk rfl rfl lk_model rfl rfl rfl (sf_8_27 hM11) rfl ?_
    refine ev_ls (L' := [some (.ref 247), some (.int a1), none]) (st' := [.ref 247]) (pc' := 67) hk (.aload_n 0) 1 rfl rfl rfl rfl ?_
    obtain ⟨M12, hc13, hx⟩ := bnd_some hx
    refine ev_cv 58 0 [] 70 hk rfl rfl rfl rfl lk_model rfl rfl rfl (rM_goOnRead hc13) rfl rfl rfl rfl ?_
    refine ev_ls (L' := [some (.ref 247), some (.int a1), none]) (st' := [.ref 247]) (pc' := 71) hk (.aload_n 0) 1 rfl rfl rfl rfl ?_
    refine ev_gf (.int (mF M12 26)) 74 hk rfl rfl lk_model rfl rfl ?_
    refine ev_ls (L' := [some (.ref 247), some (.int a1), some (.int (mF M12 26))]) (st' := []) (pc' := 75) hk (.istore_n 2) 1 rfl rfl rfl rfl ?_
    refine ev_ls (L' := [some (.ref 247), some (.int a1), some (.int (mF M12 26))]) (st' := [.ref 247]) (pc' := 76) hk (.aload_n 0) 1 rfl rfl rfl rfl ?_
    refine ev_gf (.ref 254) 79 hk rfl rfl lk_model rfl rfl ?_
    refine ev_ls (L' := [some (.ref 247), some (.int a1), some (.int (mF M12 26))]) (st' := [.int (mF M12 26), .ref 254]) (pc' := 80) hk (.iload_n 2) 1 rfl rfl rfl rfl ?_
    refine ev_ls (L' := [some (.ref 247), some (.int a1), some (.int (mF M12 26))]) (st' := [.int a1, .int (mF M12 26), .ref 254]) (pc' := 81) hk (.iload_n 1) 1 rfl rfl rfl rfl ?_
    obtain ⟨A14, hA14, hx⟩ := bnd_some hx
    obtain ⟨M15, hM15, hx⟩ := bnd_some hx
    have hM15 := Option.some.inj hM15
    refine ev_ias hA14 82 hk rfl lk_m254 (sa_m254 hM15) rfl ?_
    refine ev_ls (L' := [some (.ref 247), some (.int a1), some (.int (mF M12 26))]) (st' := [.ref 247]) (pc' := 83) hk (.aload_n 0) 1 rfl rfl rfl rfl ?_
    refine ev_ls (L' := [some (.ref 247), some (.int a1), some (.int (mF M12 26))]) (st' := [.int (mF M12 26), .ref 247]) (pc' := 84) hk (.iload_n 2) 1 rfl rfl rfl rfl ?_
    refine ev_ls (L' := [some (.ref 247), some (.int a1), some (.int (mF M12 26))]) (st' := [.int a1, .int (mF M12 26), .ref 247]) (pc' := 85) hk (.iload_n 1) 1 rfl rfl rfl rfl ?_
    obtain ⟨M16, hc17, hx⟩ := bnd_some hx
    refine ev_cv 154 2 [] 88 hk rfl rfl rfl rfl lk_model rfl rfl rfl (rM_readsRest hc17) rfl rfl rfl rfl ?_
    refine ev_ls (L' := [some (.ref 247), some (.int a1), some (.int (mF M12 26))]) (st' := [.ref 247]) (pc' := 89) hk (.aload_n 0) 1 rfl rfl rfl rfl ?_
    refine ev_cv 84 0 [.int (b2i (fM_isGood M16))] 92 hk rfl rfl rfl rfl lk_model rfl rfl rfl (rM_isGood rfl) rfl rfl rfl rfl ?_
    refine ev_d1 96 95 hk rfl rfl rfl rfl (px_bne hx (fun hc hx => ?_) (fun hc hx => ?_))
    · refine ev_ls (L' := [some (.ref 247), some (.int a1), some (.int (mF M12 26))]) (st' := [.ref 247]) (pc' := 97) hk (.aload_n 0) 1 rfl rfl rfl rfl ?_
      refine ev_op (st' := [.ref 247, .ref 247]) (pc' := 98) hk (.dup) 1 rfl rfl rfl ?_
      refine ev_gf (.int (mF M16 26)) 101 hk rfl rfl lk_model rfl rfl ?_
      refine ev_op (st' := [.int 1, .int (mF M16 26), .ref 247]) (pc' := 102) hk (.iconst 1) 1 rfl rfl rfl ?_
      refine ev_op (st' := [.int ((mF M16 26) + 1), .ref 247]) (pc' := 103) hk (.iadd) 1 rfl rfl rfl ?_
      obtain ⟨M18, hM18, hx⟩ := bnd_some hx
      have hM18 := Option.some.inj hM18
      refine ev_pf 106 hk rfl rfl lk_model rfl rfl rfl (sf_8_26 hM18) rfl ?_
      refine ev_ls (L' := [some (.ref 247), some (.int a1), some (.int (mF M12 26))]) (st' := [.ref 247]) (pc' := 107) hk (.aload_n 0) 1 rfl rfl rfl rfl ?_
      refine ev_op (st' := [.ref 247, .ref 247]) (pc' := 108) hk (.dup) 1 rfl rfl rfl ?_
      refine ev_gf (.int (mF M18 28)) 111 hk rfl rfl lk_model rfl rfl ?_
      refine ev_ls (L' := [some (.ref 247), some (.int a1), some (.int (mF M12 26))]) (st' := [.int a1, .int (mF M18 28), .ref 247]) (pc' := 112) hk (.iload_n 1) 1 rfl rfl rfl rfl ?_
      refine ev_op (st' := [.int 6, .int a1, .int (mF M18 28), .ref 247]) (pc' := 114) hk (.bipush 6) 2 rfl rfl rfl ?_
      refine ev_d2 121 117 hk rfl rfl rfl rfl (px_cne hx (fun hc hx => ?_) (fun hc hx => ?_))
      · refine ev_op (st' := [.int 0, .int (mF M18 28), .ref 247]) (pc' := 122) hk (.iconst 0) 1 rfl rfl rfl ?_
        exact rM_command_j122 hx hM (some (.ref 247)) rfl (some (.int a1)) rfl (some (.int (mF M12 26))) rfl
      · refine ev_op (st' := [.int 1, .int (mF M18 28), .ref 247]) (pc' := 118) hk (.iconst 1) 1 rfl rfl rfl ?_
        refine ev_jp (pc' := 122) (st' := [.int 1, .int (mF M18 28), .ref 247]) hk (.goto 4) 3 rfl rfl rfl rfl rfl ?_
        exact rM_command_j122 hx hM (some (.ref 247)) rfl (some (.int a1)) rfl (some (.int (mF M12 26))) rfl
    · cases hx
      obtain rfl := hM
      exact ev_retv hk rfl rfl
  · cases hx
    obtain rfl := hM
    exact ev_retv hk rfl rfl
set_option maxRecDepth 4000 in
theorem rM_command_j34 {S : Nat} {xs : Nat → Int32} {I : zI} {C : zC} {Y : Nat → Int32} {Γ : Nat → zG} {D : zD} {O : Nat → Int32} {M : zM} {ou : Nat → Int64} {od : Nat → UInt64} {j : Nat} {a1 : Int32} {y : (Option Value ⊕ String) × px_H} {x : zM}  (hx : fM_command_j34 M a1 = some x) (hM : (fun X : zM => y = (((.inl none), (zH I C Y Γ D O X ou od j)) : (Option Value ⊕ String) × px_H)) x)  : Ev S xs 35 34 [some (.ref 247), some (.int a1), none] [] (zH I C Y Γ D O M ou od j) y := by
  have hk : pt_mt[35]? = some pt_r35 := rfl
  unfold fM_command_j34 at hx
  refine ev_ls (L' := [some (.ref 247), some (.int a1), none]) (st' := [.ref 247]) (pc' := 35) hk (.aload_n 0) 1 rfl rfl rfl rfl ?_
  refine ev_gf (.int (mF M 27)) 38 hk rfl rfl lk_model rfl rfl ?_
  refine ev_op (st' := [.int 30, .int (mF M 27)]) (pc' := 40) hk (.bipush 30) 2 rfl rfl rfl ?_
  refine ev_d2 48 43 hk rfl rfl rfl rfl (px_cne hx (fun hc hx => ?_) (fun hc hx => ?_))
  · exact rM_command_j48 hx hM 
  · refine ev_ls (L' := [some (.ref 247), some (.int a1), none]) (st' := [.ref 247]) (pc' := 44) hk (.aload_n 0) 1 rfl rfl rfl rfl ?_
    refine ev_op (st' := [.int 5, .ref 247]) (pc' := 45) hk (.iconst 5) 1 rfl rfl rfl ?_
    obtain ⟨M9, hc10, hx⟩ := bnd_some hx
    refine ev_cv 203 1 [] 48 hk rfl rfl rfl rfl lk_model rfl rfl rfl (rM_wrong hc10) rfl rfl rfl rfl ?_
    exact rM_command_j48 hx hM 
set_option maxRecDepth 4000 in
theorem rM_command_j15 {S : Nat} {xs : Nat → Int32} {I : zI} {C : zC} {Y : Nat → Int32} {Γ : Nat → zG} {D : zD} {O : Nat → Int32} {M : zM} {ou : Nat → Int64} {od : Nat → UInt64} {j : Nat} {a1 : Int32} {y : (Option Value ⊕ String) × px_H} {x : zM}  (hx : fM_command_j15 M a1 = some x) (hM : (fun X : zM => y = (((.inl none), (zH I C Y Γ D O X ou od j)) : (Option Value ⊕ String) × px_H)) x)  : Ev S xs 35 15 [some (.ref 247), some (.int a1), none] [] (zH I C Y Γ D O M ou od j) y := by
  have hk : pt_mt[35]? = some pt_r35 := rfl
  unfold fM_command_j15 at hx
  refine ev_ls (L' := [some (.ref 247), some (.int a1), none]) (st' := [.int a1]) (pc' := 16) hk (.iload_n 1) 1 rfl rfl rfl rfl ?_
  refine ev_op (st' := [.int 6, .int a1]) (pc' := 18) hk (.bipush 6) 2 rfl rfl rfl ?_
  refine ev_d2 34 21 hk rfl rfl rfl rfl (px_cne hx (fun hc hx => ?_) (fun hc hx => ?_))
  · exact rM_command_j34 hx hM 
  · refine ev_ls (L' := [some (.ref 247), some (.int a1), none]) (st' := [.ref 247]) (pc' := 22) hk (.aload_n 0) 1 rfl rfl rfl rfl ?_
    refine ev_gf (.int (mF M 28)) 25 hk rfl rfl lk_model rfl rfl ?_
    refine ev_op (st' := [.int 2, .int (mF M 28)]) (pc' := 26) hk (.iconst 2) 1 rfl rfl rfl ?_
    refine ev_d2 34 29 hk rfl rfl rfl rfl (px_cne hx (fun hc hx => ?_) (fun hc hx => ?_))
    · exact rM_command_j34 hx hM 
    · refine ev_ls (L' := [some (.ref 247), some (.int a1), none]) (st' := [.ref 247]) (pc' := 30) hk (.aload_n 0) 1 rfl rfl rfl rfl ?_
      refine ev_op (st' := [.int 3, .ref 247]) (pc' := 31) hk (.iconst 3) 1 rfl rfl rfl ?_
      obtain ⟨M7, hc8, hx⟩ := bnd_some hx
      refine ev_cv 203 1 [] 34 hk rfl rfl rfl rfl lk_model rfl rfl rfl (rM_wrong hc8) rfl rfl rfl rfl ?_
      exact rM_command_j34 hx hM 
set_option maxRecDepth 2000 in
theorem rM_command {S : Nat} {xs : Nat → Int32} {I : zI} {C : zC} {Y : Nat → Int32} {Γ : Nat → zG} {D : zD} {O : Nat → Int32} {M : zM} {ou : Nat → Int64} {od : Nat → UInt64} {j : Nat}  {X : zM}   (hx : fM_command M = some X) : Ev S xs 35 0 [some (.ref 247), none, none] [] (zH I C Y Γ D O M ou od j) (((.inl none), (zH I C Y Γ D O X ou od j)) : (Option Value ⊕ String) × px_H) := by
  generalize hM : (((.inl none), (zH I C Y Γ D O X ou od j)) : (Option Value ⊕ String) × px_H) = y
  replace hM := hM.symm
  have hk : pt_mt[35]? = some pt_r35 := rfl
  unfold fM_command at hx
  refine ev_ls (L' := [some (.ref 247), none, none]) (st' := [.ref 247]) (pc' := 1) hk (.aload_n 0) 1 rfl rfl rfl rfl ?_
  refine ev_cv 36 0 [.int (fM_commandHere M)] 4 hk rfl rfl rfl rfl lk_model rfl rfl rfl (rM_commandHere rfl) rfl rfl rfl rfl ?_
  refine ev_ls (L' := [some (.ref 247), some (.int (fM_commandHere M)), none]) (st' := []) (pc' := 5) hk (.istore_n 1) 1 rfl rfl rfl rfl ?_
  refine ev_ls (L' := [some (.ref 247), some (.int (fM_commandHere M)), none]) (st' := [.int (fM_commandHere M)]) (pc' := 6) hk (.iload_n 1) 1 rfl rfl rfl rfl ?_
  refine ev_op (st' := [.int (-1), .int (fM_commandHere M)]) (pc' := 7) hk (.iconst (-1)) 1 rfl rfl rfl ?_
  refine ev_d2 15 10 hk rfl rfl rfl rfl (px_cne hx (fun hc hx => ?_) (fun hc hx => ?_))
  · exact rM_command_j15 hx hM 
  · refine ev_ls (L' := [some (.ref 247), some (.int (fM_commandHere M)), none]) (st' := [.ref 247]) (pc' := 11) hk (.aload_n 0) 1 rfl rfl rfl rfl ?_
    refine ev_op (st' := [.int 1, .ref 247]) (pc' := 12) hk (.iconst 1) 1 rfl rfl rfl ?_
    obtain ⟨M20, hc21, hx⟩ := bnd_some hx
    refine ev_cv 203 1 [] 15 hk rfl rfl rfl rfl lk_model rfl rfl rfl (rM_wrong hc21) rfl rfl rfl rfl ?_
    exact rM_command_j15 hx hM 
def qM_closes_0 (S : Nat) (xs : Nat → Int32) (I : zI) (C : zC) (Y : Nat → Int32) (Γ : Nat → zG) (D : zD) (O : Nat → Int32) (ou : Nat → Int64) (od : Nat → UInt64) (j : Nat) (y : (Option Value ⊕ String) × px_H) (s : zM) : Prop := Ev S xs 34 0 [some (.ref 247)] [] (zH I C Y Γ D O s ou od j) y
set_option maxRecDepth 4000 in
theorem rM_closes_b0 {S : Nat} {xs : Nat → Int32} {I : zI} {C : zC} {Y : Nat → Int32} {Γ : Nat → zG} {D : zD} {O : Nat → Int32} {ou : Nat → Int64} {od : Nat → UInt64} {j : Nat}  {y : (Option Value ⊕ String) × px_H} {s : zM} {x : (zM) ⊕ (zM)}  (hx : fM_closes_b0 s = some x) (hM : (Sum.elim (qM_closes_0 S xs I C Y Γ D O ou od j y) (fun X : zM => y = (((.inl none), (zH I C Y Γ D O X ou od j)) : (Option Value ⊕ String) × px_H))) x) : qM_closes_0 S xs I C Y Γ D O ou od j y s := by
  revert hx
  generalize s = M
  intro hx
  have hk : pt_mt[34]? = some pt_r34 := rfl
  unfold fM_closes_b0 at hx
  try dsimp only at hx
  refine ev_ls (L' := [some (.ref 247)]) (st' := [.ref 247]) (pc' := 1) hk (.aload_n 0) 1 rfl rfl rfl rfl ?_
  refine ev_gf (.int (mF M 28)) 4 hk rfl rfl lk_model rfl rfl ?_
  refine ev_d1 60 7 hk rfl rfl rfl rfl (px_cle hx (fun hc hx => ?_) (fun hc hx => ?_))
  · cases hx
    obtain rfl := hM
    exact ev_retv hk rfl rfl
  · refine ev_ls (L' := [some (.ref 247)]) (st' := [.ref 247]) (pc' := 8) hk (.aload_n 0) 1 rfl rfl rfl rfl ?_
    refine ev_op (st' := [.int 41, .ref 247]) (pc' := 10) hk (.bipush 41) 2 rfl rfl rfl ?_
    refine ev_cv 91 1 [.int (b2i (fM_isSign M 41))] 13 hk rfl rfl rfl rfl lk_model rfl rfl rfl (rM_isSign rfl) rfl rfl rfl rfl ?_
    refine ev_d1 60 16 hk rfl rfl rfl rfl (px_beq hx (fun hc hx => ?_) (fun hc hx => ?_))
    · cases hx
      obtain rfl := hM
      exact ev_retv hk rfl rfl
    · refine ev_ls (L' := [some (.ref 247)]) (st' := [.ref 247]) (pc' := 17) hk (.aload_n 0) 1 rfl rfl rfl rfl ?_
      refine ev_op (st' := [.ref 247, .ref 247]) (pc' := 18) hk (.dup) 1 rfl rfl rfl ?_
      refine ev_gf (.int (mF M 28)) 21 hk rfl rfl lk_model rfl rfl ?_
      refine ev_op (st' := [.int 1, .int (mF M 28), .ref 247]) (pc' := 22) hk (.iconst 1) 1 rfl rfl rfl ?_
      refine ev_op (st' := [.int ((mF M 28) - 1), .ref 247]) (pc' := 23) hk (.isub) 1 rfl rfl rfl ?_
      obtain ⟨M5, hM5, hx⟩ := bnd_some hx
      have hM5 := Option.some.inj hM5
      refine ev_pf 26 hk rfl rfl lk_model rfl rfl rfl (sf_8_28 hM5) rfl ?_
      refine ev_ls (L' := [some (.ref 247)]) (st' := [.ref 247]) (pc' := 27) hk (.aload_n 0) 1 rfl rfl rfl rfl ?_
      refine ev_gf (.ref 254) 30 hk rfl rfl lk_model rfl rfl ?_
      refine ev_ls (L' := [some (.ref 247)]) (st' := [.ref 247, .ref 254]) (pc' := 31) hk (.aload_n 0) 1 rfl rfl rfl rfl ?_
      refine ev_gf (.int (mF M5 26)) 34 hk rfl rfl lk_model rfl rfl ?_
      refine ev_op (st' := [.int 7, .int (mF M5 26), .ref 254]) (pc' := 36) hk (.bipush 7) 2 rfl rfl rfl ?_
      obtain ⟨A6, hA6, hx⟩ := bnd_some hx
      obtain ⟨M7, hM7, hx⟩ := bnd_some hx
      have hM7 := Option.some.inj hM7
      refine ev_ias hA6 37 hk rfl lk_m254 (sa_m254 hM7) rfl ?_
      refine ev_ls (L' := [some (.ref 247)]) (st' := [.ref 247]) (pc' := 38) hk (.aload_n 0) 1 rfl rfl rfl rfl ?_
      refine ev_op (st' := [.ref 247, .ref 247]) (pc' := 39) hk (.dup) 1 rfl rfl rfl ?_
      refine ev_gf (.int (mF M7 26)) 42 hk rfl rfl lk_model rfl rfl ?_
      refine ev_op (st' := [.int 1, .int (mF M7 26), .ref 247]) (pc' := 43) hk (.iconst 1) 1 rfl rfl rfl ?_
      refine ev_op (st' := [.int ((mF M7 26) + 1), .ref 247]) (pc' := 44) hk (.iadd) 1 rfl rfl rfl ?_
      obtain ⟨M8, hM8, hx⟩ := bnd_some hx
      have hM8 := Option.some.inj hM8
      refine ev_pf 47 hk rfl rfl lk_model rfl rfl rfl (sf_8_26 hM8) rfl ?_
      refine ev_ls (L' := [some (.ref 247)]) (st' := [.ref 247]) (pc' := 48) hk (.aload_n 0) 1 rfl rfl rfl rfl ?_
      obtain ⟨M9, hc10, hx⟩ := bnd_some hx
      refine ev_cv 58 0 [] 51 hk rfl rfl rfl rfl lk_model rfl rfl rfl (rM_goOnRead hc10) rfl rfl rfl rfl ?_
      refine ev_ls (L' := [some (.ref 247)]) (st' := [.ref 247]) (pc' := 52) hk (.aload_n 0) 1 rfl rfl rfl rfl ?_
      refine ev_op (st' := [.int 59, .ref 247]) (pc' := 54) hk (.bipush 59) 2 rfl rfl rfl ?_
      obtain ⟨M11, hc12, hx⟩ := bnd_some hx
      refine ev_cv 139 1 [] 57 hk rfl rfl rfl rfl lk_model rfl rfl rfl (rM_mustSign hc12) rfl rfl rfl rfl ?_
      refine ev_jp (pc' := 0) (st' := []) hk (.goto (-57)) 3 rfl rfl rfl rfl rfl ?_
      cases hx
      exact hM
set_option maxRecDepth 2000 in
theorem rM_closes {S : Nat} {xs : Nat → Int32} {I : zI} {C : zC} {Y : Nat → Int32} {Γ : Nat → zG} {D : zD} {O : Nat → Int32} {M : zM} {ou : Nat → Int64} {od : Nat → UInt64} {j : Nat}  {X : zM}   (hx : fM_closes M = some X) : Ev S xs 34 0 [some (.ref 247)] [] (zH I C Y Γ D O M ou od j) (((.inl none), (zH I C Y Γ D O X ou od j)) : (Option Value ⊕ String) × px_H) := by
  generalize hM : (((.inl none), (zH I C Y Γ D O X ou od j)) : (Option Value ⊕ String) × px_H) = y
  replace hM := hM.symm
  have hk : pt_mt[34]? = some pt_r34 := rfl
  unfold fM_closes at hx
  exact ev_iter (qM_closes_0 S xs I C Y Γ D O ou od j _) (fun X : zM => y = (((.inl none), (zH I C Y Γ D O X ou od j)) : (Option Value ⊕ String) × px_H)) (fun s x hb hM => rM_closes_b0 hb hM) fu _ _ hx hM 
set_option maxRecDepth 4000 in
theorem rM_endsText_j29 {S : Nat} {xs : Nat → Int32} {I : zI} {C : zC} {Y : Nat → Int32} {Γ : Nat → zG} {D : zD} {O : Nat → Int32} {M : zM} {ou : Nat → Int64} {od : Nat → UInt64} {j : Nat} {a0t : Bool} {y : (Option Value ⊕ String) × px_H} {x : Bool × zM}  (hx : fM_endsText_j29 M a0t = some x) (hM : (fun X : Bool × zM => y = (((.inl (some (.int (b2i X.1)))), (zH I C Y Γ D O X.2 ou od j)) : (Option Value ⊕ String) × px_H)) x) (u0 : Option Value) (hu0 : px_cz u0 = true) : Ev S xs 50 29 [u0] [.int (b2i a0t), .ref 247] (zH I C Y Γ D O M ou od j) y := by
  have hk : pt_mt[50]? = some pt_r50 := rfl
  unfold fM_endsText_j29 at hx
  obtain ⟨v4, M3, hc5, hx⟩ := bnd2_some hx
  refine ev_cv 59 1 [.int (b2i v4)] 32 hk rfl rfl rfl rfl lk_model rfl rfl rfl (rM_goes hc5) rfl rfl rfl rfl ?_
  cases hx
  obtain rfl := hM
  exact ev_retZ _ rfl hk rfl rfl
set_option maxRecDepth 2000 in
theorem rM_endsText {S : Nat} {xs : Nat → Int32} {I : zI} {C : zC} {Y : Nat → Int32} {Γ : Nat → zG} {D : zD} {O : Nat → Int32} {M : zM} {ou : Nat → Int64} {od : Nat → UInt64} {j : Nat}  {X : Bool × zM}   (hx : fM_endsText M = some X) : Ev S xs 50 0 [some (.ref 247)] [] (zH I C Y Γ D O M ou od j) (((.inl (some (.int (b2i X.1)))), (zH I C Y Γ D O X.2 ou od j)) : (Option Value ⊕ String) × px_H) := by
  generalize hM : (((.inl (some (.int (b2i X.1)))), (zH I C Y Γ D O X.2 ou od j)) : (Option Value ⊕ String) × px_H) = y
  replace hM := hM.symm
  have hk : pt_mt[50]? = some pt_r50 := rfl
  unfold fM_endsText at hx
  refine ev_ls (L' := [some (.ref 247)]) (st' := [.ref 247]) (pc' := 1) hk (.aload_n 0) 1 rfl rfl rfl rfl ?_
  refine ev_ls (L' := [some (.ref 247)]) (st' := [.ref 247, .ref 247]) (pc' := 2) hk (.aload_n 0) 1 rfl rfl rfl rfl ?_
  refine ev_gf (.int (mF M 8)) 5 hk rfl rfl lk_model rfl rfl ?_
  obtain ⟨M6, hM6, hx⟩ := bnd_some hx
  have hM6 := Option.some.inj hM6
  refine ev_pf 8 hk rfl rfl lk_model rfl rfl rfl (sf_8_10 hM6) rfl ?_
  refine ev_ls (L' := [some (.ref 247)]) (st' := [.ref 247]) (pc' := 9) hk (.aload_n 0) 1 rfl rfl rfl rfl ?_
  refine ev_ls (L' := [some (.ref 247)]) (st' := [.ref 247, .ref 247]) (pc' := 10) hk (.aload_n 0) 1 rfl rfl rfl rfl ?_
  refine ev_gf (.int (mF M6 9)) 13 hk rfl rfl lk_model rfl rfl ?_
  obtain ⟨M7, hM7, hx⟩ := bnd_some hx
  have hM7 := Option.some.inj hM7
  refine ev_pf 16 hk rfl rfl lk_model rfl rfl rfl (sf_8_11 hM7) rfl ?_
  refine ev_ls (L' := [some (.ref 247)]) (st' := [.ref 247]) (pc' := 17) hk (.aload_n 0) 1 rfl rfl rfl rfl ?_
  refine ev_ls (L' := [some (.ref 247)]) (st' := [.ref 247, .ref 247]) (pc' := 18) hk (.aload_n 0) 1 rfl rfl rfl rfl ?_
  refine ev_gf (.int (mF M7 8)) 21 hk rfl rfl lk_model rfl rfl ?_
  refine ev_d1 28 24 hk rfl rfl rfl rfl (px_cne hx (fun hc hx => ?_) (fun hc hx => ?_))
  · refine ev_op (st' := [.int 0, .ref 247]) (pc' := 29) hk (.iconst 0) 1 rfl rfl rfl ?_
    exact rM_endsText_j29 hx hM (some (.ref 247)) rfl
  · refine ev_op (st' := [.int 1, .ref 247]) (pc' := 25) hk (.iconst 1) 1 rfl rfl rfl ?_
    refine ev_jp (pc' := 29) (st' := [.int 1, .ref 247]) hk (.goto 4) 3 rfl rfl rfl rfl rfl ?_
    exact rM_endsText_j29 hx hM (some (.ref 247)) rfl
set_option maxRecDepth 4000 in
theorem rM_may {S : Nat} {xs : Nat → Int32} {I : zI} {C : zC} {Y : Nat → Int32} {Γ : Nat → zG} {D : zD} {O : Nat → Int32} {M : zM} {ou : Nat → Int64} {od : Nat → UInt64} {j : Nat} {a1 : Int32} {X : Bool}   (hx : fM_may M a1 = some X) : Ev S xs 129 0 [some (.ref 247), some (.int a1), none, none] [] (zH I C Y Γ D O M ou od j) (((.inl (some (.int (b2i X)))), (zH I C Y Γ D O M ou od j)) : (Option Value ⊕ String) × px_H) := by
  generalize hM : (((.inl (some (.int (b2i X)))), (zH I C Y Γ D O M ou od j)) : (Option Value ⊕ String) × px_H) = y
  replace hM := hM.symm
  have hk : pt_mt[129]? = some pt_r129 := rfl
  unfold fM_may at hx
  refine ev_ls (L' := [some (.ref 247), some (.int a1), none, none]) (st' := [.ref 247]) (pc' := 1) hk (.aload_n 0) 1 rfl rfl rfl rfl ?_
  refine ev_gf (.ref 255) 4 hk rfl rfl lk_model rfl rfl ?_
  refine ev_ls (L' := [some (.ref 247), some (.int a1), none, none]) (st' := [.int a1, .ref 255]) (pc' := 5) hk (.iload_n 1) 1 rfl rfl rfl rfl ?_
  obtain ⟨v5, hv5, hx⟩ := bnd_some hx
  refine ev_ial hv5 6 hk rfl lk_m255 rfl ?_
  refine ev_ls (L' := [some (.ref 247), some (.int a1), some (.int v5), none]) (st' := []) (pc' := 7) hk (.istore_n 2) 1 rfl rfl rfl rfl ?_
  refine ev_ls (L' := [some (.ref 247), some (.int a1), some (.int v5), none]) (st' := [.ref 247]) (pc' := 8) hk (.aload_n 0) 1 rfl rfl rfl rfl ?_
  refine ev_gf (.ref 256) 11 hk rfl rfl lk_model rfl rfl ?_
  refine ev_ls (L' := [some (.ref 247), some (.int a1), some (.int v5), none]) (st' := [.int a1, .ref 256]) (pc' := 12) hk (.iload_n 1) 1 rfl rfl rfl rfl ?_
  obtain ⟨v6, hv6, hx⟩ := bnd_some hx
  refine ev_ial hv6 13 hk rfl lk_m256 rfl ?_
  refine ev_ls (L' := [some (.ref 247), some (.int a1), some (.int v5), some (.int v6)]) (st' := []) (pc' := 14) hk (.istore_n 3) 1 rfl rfl rfl rfl ?_
  refine ev_ls (L' := [some (.ref 247), some (.int a1), some (.int v5), some (.int v6)]) (st' := [.ref 247]) (pc' := 15) hk (.aload_n 0) 1 rfl rfl rfl rfl ?_
  refine ev_gf (.ref 254) 18 hk rfl rfl lk_model rfl rfl ?_
  refine ev_ls (L' := [some (.ref 247), some (.int a1), some (.int v5), some (.int v6)]) (st' := [.int a1, .ref 254]) (pc' := 19) hk (.iload_n 1) 1 rfl rfl rfl rfl ?_
  obtain ⟨v7, hv7, hx⟩ := bnd_some hx
  refine ev_ial hv7 20 hk rfl lk_m254 rfl ?_
  refine ev_ts 0 56 hk rfl rfl (by decide +kernel) hx (fun hc hx => ?_) (fun hn0 hx => ?_)
  · refine ev_ls (L' := [some (.ref 247), some (.int a1), some (.int v5), some (.int v6)]) (st' := [.int v5]) (pc' := 57) hk (.iload_n 2) 1 rfl rfl rfl rfl ?_
    refine ev_ls (L' := [some (.ref 247), some (.int a1), some (.int v5), some (.int v6)]) (st' := [.int v6, .int v5]) (pc' := 58) hk (.iload_n 3) 1 rfl rfl rfl rfl ?_
    refine ev_cs 93 2 [.int (b2i (fM_isSpotAt v5 v6))] 61 hk rfl rfl (by decide) rfl rfl rfl (rM_isSpotAt rfl) rfl rfl rfl rfl ?_
    refine ev_d1 77 64 hk rfl rfl rfl rfl (px_beq hx (fun hc hx => ?_) (fun hc hx => ?_))
    · refine ev_op (st' := [.int 0]) (pc' := 78) hk (.iconst 0) 1 rfl rfl rfl ?_
      cases hx
      obtain rfl := hM
      exact ev_retZ false rfl hk rfl rfl
    · refine ev_ls (L' := [some (.ref 247), some (.int a1), some (.int v5), some (.int v6)]) (st' := [.ref 247]) (pc' := 65) hk (.aload_n 0) 1 rfl rfl rfl rfl ?_
      refine ev_ls (L' := [some (.ref 247), some (.int a1), some (.int v5), some (.int v6)]) (st' := [.int v5, .ref 247]) (pc' := 66) hk (.iload_n 2) 1 rfl rfl rfl rfl ?_
      refine ev_ls (L' := [some (.ref 247), some (.int a1), some (.int v5), some (.int v6)]) (st' := [.int v6, .int v5, .ref 247]) (pc' := 67) hk (.iload_n 3) 1 rfl rfl rfl rfl ?_
      obtain ⟨v8, hc9, hx⟩ := bnd_some hx
      refine ev_cv 70 2 [.int v8] 70 hk rfl rfl rfl rfl lk_model rfl rfl rfl (rM_hemWhy hc9) rfl rfl rfl rfl ?_
      refine ev_d1 77 73 hk rfl rfl rfl rfl (px_cne hx (fun hc hx => ?_) (fun hc hx => ?_))
      · refine ev_op (st' := [.int 0]) (pc' := 78) hk (.iconst 0) 1 rfl rfl rfl ?_
        cases hx
        obtain rfl := hM
        exact ev_retZ false rfl hk rfl rfl
      · refine ev_op (st' := [.int 1]) (pc' := 74) hk (.iconst 1) 1 rfl rfl rfl ?_
        refine ev_jp (pc' := 78) (st' := [.int 1]) hk (.goto 4) 3 rfl rfl rfl rfl rfl ?_
        cases hx
        obtain rfl := hM
        exact ev_retZ true rfl hk rfl rfl
  refine ev_ts 1 79 hk rfl rfl (by decide +kernel) hx (fun hc hx => ?_) (fun hn1 hx => ?_)
  · refine ev_ls (L' := [some (.ref 247), some (.int a1), some (.int v5), some (.int v6)]) (st' := [.int v6]) (pc' := 80) hk (.iload_n 3) 1 rfl rfl rfl rfl ?_
    refine ev_cs 24 1 [.int (b2i (fM_areStitches v6))] 83 hk rfl rfl (by decide) rfl rfl rfl (rM_areStitches rfl) rfl rfl rfl rfl ?_
    refine ev_d1 99 86 hk rfl rfl rfl rfl (px_beq hx (fun hc hx => ?_) (fun hc hx => ?_))
    · refine ev_op (st' := [.int 0]) (pc' := 100) hk (.iconst 0) 1 rfl rfl rfl ?_
      cases hx
      obtain rfl := hM
      exact ev_retZ false rfl hk rfl rfl
    · refine ev_ls (L' := [some (.ref 247), some (.int a1), some (.int v5), some (.int v6)]) (st' := [.ref 247]) (pc' := 87) hk (.aload_n 0) 1 rfl rfl rfl rfl ?_
      refine ev_ls (L' := [some (.ref 247), some (.int a1), some (.int v5), some (.int v6)]) (st' := [.int v5, .ref 247]) (pc' := 88) hk (.iload_n 2) 1 rfl rfl rfl rfl ?_
      refine ev_ls (L' := [some (.ref 247), some (.int a1), some (.int v5), some (.int v6)]) (st' := [.int v6, .int v5, .ref 247]) (pc' := 89) hk (.iload_n 3) 1 rfl rfl rfl rfl ?_
      obtain ⟨v10, hc11, hx⟩ := bnd_some hx
      refine ev_cv 132 2 [.int (b2i v10)] 92 hk rfl rfl rfl rfl lk_model rfl rfl rfl (rM_maySew hc11) rfl rfl rfl rfl ?_
      refine ev_d1 99 95 hk rfl rfl rfl rfl (px_beq hx (fun hc hx => ?_) (fun hc hx => ?_))
      · refine ev_op (st' := [.int 0]) (pc' := 100) hk (.iconst 0) 1 rfl rfl rfl ?_
        cases hx
        obtain rfl := hM
        exact ev_retZ false rfl hk rfl rfl
      · refine ev_op (st' := [.int 1]) (pc' := 96) hk (.iconst 1) 1 rfl rfl rfl ?_
        refine ev_jp (pc' := 100) (st' := [.int 1]) hk (.goto 4) 3 rfl rfl rfl rfl rfl ?_
        cases hx
        obtain rfl := hM
        exact ev_retZ true rfl hk rfl rfl
  refine ev_ts 2 101 hk rfl rfl (by decide +kernel) hx (fun hc hx => ?_) (fun hn2 hx => ?_)
  · refine ev_ls (L' := [some (.ref 247), some (.int a1), some (.int v5), some (.int v6)]) (st' := [.ref 247]) (pc' := 102) hk (.aload_n 0) 1 rfl rfl rfl rfl ?_
    refine ev_ls (L' := [some (.ref 247), some (.int a1), some (.int v5), some (.int v6)]) (st' := [.int v5, .ref 247]) (pc' := 103) hk (.iload_n 2) 1 rfl rfl rfl rfl ?_
    refine ev_cv 92 1 [.int (b2i (fM_isSpot M v5))] 106 hk rfl rfl rfl rfl lk_model rfl rfl rfl (rM_isSpot rfl) rfl rfl rfl rfl ?_
    refine ev_d1 132 109 hk rfl rfl rfl rfl (px_beq hx (fun hc hx => ?_) (fun hc hx => ?_))
    · refine ev_op (st' := [.int 0]) (pc' := 133) hk (.iconst 0) 1 rfl rfl rfl ?_
      cases hx
      obtain rfl := hM
      exact ev_retZ false rfl hk rfl rfl
    · refine ev_ls (L' := [some (.ref 247), some (.int a1), some (.int v5), some (.int v6)]) (st' := [.int v6]) (pc' := 110) hk (.iload_n 3) 1 rfl rfl rfl rfl ?_
      refine ev_op (st' := [.long (Int32.toInt64 v6)]) (pc' := 111) hk (.i2l) 1 rfl rfl rfl ?_
      refine ev_op (st' := [.long 0, .long (Int32.toInt64 v6)]) (pc' := 112) hk (.lconst 0) 1 rfl rfl rfl ?_
      refine ev_op (st' := [.long 1, .long 0, .long (Int32.toInt64 v6)]) (pc' := 113) hk (.lconst 1) 1 rfl rfl rfl ?_
      refine ev_cs 86 3 [.int (b2i (fM_isIn (Int32.toInt64 v6) 0 1))] 116 hk rfl rfl (by decide) rfl rfl rfl (rM_isIn rfl) rfl rfl rfl rfl ?_
      refine ev_d1 132 119 hk rfl rfl rfl rfl (px_beq hx (fun hc hx => ?_) (fun hc hx => ?_))
      · refine ev_op (st' := [.int 0]) (pc' := 133) hk (.iconst 0) 1 rfl rfl rfl ?_
        cases hx
        obtain rfl := hM
        exact ev_retZ false rfl hk rfl rfl
      · refine ev_ls (L' := [some (.ref 247), some (.int a1), some (.int v5), some (.int v6)]) (st' := [.ref 247]) (pc' := 120) hk (.aload_n 0) 1 rfl rfl rfl rfl ?_
        refine ev_ls (L' := [some (.ref 247), some (.int a1), some (.int v5), some (.int v6)]) (st' := [.int v5, .ref 247]) (pc' := 121) hk (.iload_n 2) 1 rfl rfl rfl rfl ?_
        refine ev_ls (L' := [some (.ref 247), some (.int a1), some (.int v5), some (.int v6)]) (st' := [.int v6, .int v5, .ref 247]) (pc' := 122) hk (.iload_n 3) 1 rfl rfl rfl rfl ?_
        obtain ⟨v12, hc13, hx⟩ := bnd_some hx
        refine ev_cv 173 2 [.int v12] 125 hk rfl rfl rfl rfl lk_model rfl rfl rfl (rM_stepWhy hc13) rfl rfl rfl rfl ?_
        refine ev_d1 132 128 hk rfl rfl rfl rfl (px_cne hx (fun hc hx => ?_) (fun hc hx => ?_))
        · refine ev_op (st' := [.int 0]) (pc' := 133) hk (.iconst 0) 1 rfl rfl rfl ?_
          cases hx
          obtain rfl := hM
          exact ev_retZ false rfl hk rfl rfl
        · refine ev_op (st' := [.int 1]) (pc' := 129) hk (.iconst 1) 1 rfl rfl rfl ?_
          refine ev_jp (pc' := 133) (st' := [.int 1]) hk (.goto 4) 3 rfl rfl rfl rfl rfl ?_
          cases hx
          obtain rfl := hM
          exact ev_retZ true rfl hk rfl rfl
  refine ev_ts 3 134 hk rfl rfl (by decide +kernel) hx (fun hc hx => ?_) (fun hn3 hx => ?_)
  · refine ev_ls (L' := [some (.ref 247), some (.int a1), some (.int v5), some (.int v6)]) (st' := [.ref 247]) (pc' := 135) hk (.aload_n 0) 1 rfl rfl rfl rfl ?_
    refine ev_ls (L' := [some (.ref 247), some (.int a1), some (.int v5), some (.int v6)]) (st' := [.int v5, .ref 247]) (pc' := 136) hk (.iload_n 2) 1 rfl rfl rfl rfl ?_
    obtain ⟨v14, hc15, hx⟩ := bnd_some hx
    refine ev_cv 100 1 [.int (b2i v14)] 139 hk rfl rfl rfl rfl lk_model rfl rfl rfl (rM_isTravelling hc15) rfl rfl rfl rfl ?_
    refine ev_d1 159 142 hk rfl rfl rfl rfl (px_beq hx (fun hc hx => ?_) (fun hc hx => ?_))
    · refine ev_op (st' := [.int 0]) (pc' := 160) hk (.iconst 0) 1 rfl rfl rfl ?_
      cases hx
      obtain rfl := hM
      exact ev_retZ false rfl hk rfl rfl
    · refine ev_ls (L' := [some (.ref 247), some (.int a1), some (.int v5), some (.int v6)]) (st' := [.int v6]) (pc' := 143) hk (.iload_n 3) 1 rfl rfl rfl rfl ?_
      refine ev_ls (L' := [some (.ref 247), some (.int a1), some (.int v5), some (.int v6)]) (st' := [.ref 247, .int v6]) (pc' := 144) hk (.aload_n 0) 1 rfl rfl rfl rfl ?_
      refine ev_gf (.ref 257) 147 hk rfl rfl lk_model rfl rfl ?_
      refine ev_ls (L' := [some (.ref 247), some (.int a1), some (.int v5), some (.int v6)]) (st' := [.int a1, .ref 257, .int v6]) (pc' := 148) hk (.iload_n 1) 1 rfl rfl rfl rfl ?_
      obtain ⟨v16, hv16, hx⟩ := bnd_some hx
      refine ev_ial hv16 149 hk rfl lk_m257 rfl ?_
      refine ev_cs 101 2 [.int (b2i (fM_isWalk v6 v16))] 152 hk rfl rfl (by decide) rfl rfl rfl (rM_isWalk rfl) rfl rfl rfl rfl ?_
      refine ev_d1 159 155 hk rfl rfl rfl rfl (px_beq hx (fun hc hx => ?_) (fun hc hx => ?_))
      · refine ev_op (st' := [.int 0]) (pc' := 160) hk (.iconst 0) 1 rfl rfl rfl ?_
        cases hx
        obtain rfl := hM
        exact ev_retZ false rfl hk rfl rfl
      · refine ev_op (st' := [.int 1]) (pc' := 156) hk (.iconst 1) 1 rfl rfl rfl ?_
        refine ev_jp (pc' := 160) (st' := [.int 1]) hk (.goto 4) 3 rfl rfl rfl rfl rfl ?_
        cases hx
        obtain rfl := hM
        exact ev_retZ true rfl hk rfl rfl
  refine ev_ts 4 161 hk rfl rfl (by decide +kernel) hx (fun hc hx => ?_) (fun hn4 hx => ?_)
  · refine ev_ls (L' := [some (.ref 247), some (.int a1), some (.int v5), some (.int v6)]) (st' := [.ref 247]) (pc' := 162) hk (.aload_n 0) 1 rfl rfl rfl rfl ?_
    refine ev_ls (L' := [some (.ref 247), some (.int a1), some (.int v5), some (.int v6)]) (st' := [.int v5, .ref 247]) (pc' := 163) hk (.iload_n 2) 1 rfl rfl rfl rfl ?_
    obtain ⟨v17, hc18, hx⟩ := bnd_some hx
    refine ev_cv 131 1 [.int (b2i v17)] 166 hk rfl rfl rfl rfl lk_model rfl rfl rfl (rM_mayRip hc18) rfl rfl rfl rfl ?_
    cases hx
    obtain rfl := hM
    exact ev_retZ _ rfl hk rfl rfl
  refine ev_tsd 167 (lo := 0) (n := 4) hk rfl (ts_all0_4 hn0 hn1 hn2 hn3 hn4) (by decide) (by decide +kernel) rfl ?_
  refine ev_ls (L' := [some (.ref 247), some (.int a1), some (.int v5), some (.int v6)]) (st' := [.int v5]) (pc' := 168) hk (.iload_n 2) 1 rfl rfl rfl rfl ?_
  refine ev_cs 23 1 [.int (b2i (fM_areHours v5))] 171 hk rfl rfl (by decide) rfl rfl rfl (rM_areHours rfl) rfl rfl rfl rfl ?_
  cases hx
  obtain rfl := hM
  exact ev_retZ _ rfl hk rfl rfl
set_option maxRecDepth 4000 in
theorem rM_does {S : Nat} {xs : Nat → Int32} {I : zI} {C : zC} {Y : Nat → Int32} {Γ : Nat → zG} {D : zD} {O : Nat → Int32} {M : zM} {ou : Nat → Int64} {od : Nat → UInt64} {j : Nat} {a1 : Int32} {X : Int32 × zM}   (hx : fM_does M a1 = some X) : Ev S xs 47 0 [some (.ref 247), some (.int a1), none, none] [] (zH I C Y Γ D O M ou od j) (((.inl (some (.int X.1))), (zH I C Y Γ D O X.2 ou od j)) : (Option Value ⊕ String) × px_H) := by
  generalize hM : (((.inl (some (.int X.1))), (zH I C Y Γ D O X.2 ou od j)) : (Option Value ⊕ String) × px_H) = y
  replace hM := hM.symm
  have hk : pt_mt[47]? = some pt_r47 := rfl
  unfold fM_does at hx
  refine ev_ls (L' := [some (.ref 247), some (.int a1), none, none]) (st' := [.ref 247]) (pc' := 1) hk (.aload_n 0) 1 rfl rfl rfl rfl ?_
  refine ev_gf (.ref 255) 4 hk rfl rfl lk_model rfl rfl ?_
  refine ev_ls (L' := [some (.ref 247), some (.int a1), none, none]) (st' := [.int a1, .ref 255]) (pc' := 5) hk (.iload_n 1) 1 rfl rfl rfl rfl ?_
  obtain ⟨v5, hv5, hx⟩ := bnd_some hx
  refine ev_ial hv5 6 hk rfl lk_m255 rfl ?_
  refine ev_ls (L' := [some (.ref 247), some (.int a1), some (.int v5), none]) (st' := []) (pc' := 7) hk (.istore_n 2) 1 rfl rfl rfl rfl ?_
  refine ev_ls (L' := [some (.ref 247), some (.int a1), some (.int v5), none]) (st' := [.ref 247]) (pc' := 8) hk (.aload_n 0) 1 rfl rfl rfl rfl ?_
  refine ev_gf (.ref 256) 11 hk rfl rfl lk_model rfl rfl ?_
  refine ev_ls (L' := [some (.ref 247), some (.int a1), some (.int v5), none]) (st' := [.int a1, .ref 256]) (pc' := 12) hk (.iload_n 1) 1 rfl rfl rfl rfl ?_
  obtain ⟨v6, hv6, hx⟩ := bnd_some hx
  refine ev_ial hv6 13 hk rfl lk_m256 rfl ?_
  refine ev_ls (L' := [some (.ref 247), some (.int a1), some (.int v5), some (.int v6)]) (st' := []) (pc' := 14) hk (.istore_n 3) 1 rfl rfl rfl rfl ?_
  refine ev_ls (L' := [some (.ref 247), some (.int a1), some (.int v5), some (.int v6)]) (st' := [.ref 247]) (pc' := 15) hk (.aload_n 0) 1 rfl rfl rfl rfl ?_
  refine ev_gf (.ref 254) 18 hk rfl rfl lk_model rfl rfl ?_
  refine ev_ls (L' := [some (.ref 247), some (.int a1), some (.int v5), some (.int v6)]) (st' := [.int a1, .ref 254]) (pc' := 19) hk (.iload_n 1) 1 rfl rfl rfl rfl ?_
  obtain ⟨v7, hv7, hx⟩ := bnd_some hx
  refine ev_ial hv7 20 hk rfl lk_m254 rfl ?_
  refine ev_ts 0 56 hk rfl rfl (by decide +kernel) hx (fun hc hx => ?_) (fun hn0 hx => ?_)
  · refine ev_ls (L' := [some (.ref 247), some (.int a1), some (.int v5), some (.int v6)]) (st' := [.ref 247]) (pc' := 57) hk (.aload_n 0) 1 rfl rfl rfl rfl ?_
    refine ev_ls (L' := [some (.ref 247), some (.int a1), some (.int v5), some (.int v6)]) (st' := [.int v5, .ref 247]) (pc' := 58) hk (.iload_n 2) 1 rfl rfl rfl rfl ?_
    refine ev_ls (L' := [some (.ref 247), some (.int a1), some (.int v5), some (.int v6)]) (st' := [.int v6, .int v5, .ref 247]) (pc' := 59) hk (.iload_n 3) 1 rfl rfl rfl rfl ?_
    obtain ⟨v9, M8, hc10, hx⟩ := bnd2_some hx
    refine ev_cv 138 2 [.int v9] 62 hk rfl rfl rfl rfl lk_model rfl rfl rfl (rM_movesHem hc10) rfl rfl rfl rfl ?_
    cases hx
    obtain rfl := hM
    exact ev_retI hk rfl rfl
  refine ev_ts 1 63 hk rfl rfl (by decide +kernel) hx (fun hc hx => ?_) (fun hn1 hx => ?_)
  · refine ev_ls (L' := [some (.ref 247), some (.int a1), some (.int v5), some (.int v6)]) (st' := [.ref 247]) (pc' := 64) hk (.aload_n 0) 1 rfl rfl rfl rfl ?_
    refine ev_ls (L' := [some (.ref 247), some (.int a1), some (.int v5), some (.int v6)]) (st' := [.int v5, .ref 247]) (pc' := 65) hk (.iload_n 2) 1 rfl rfl rfl rfl ?_
    refine ev_ls (L' := [some (.ref 247), some (.int a1), some (.int v5), some (.int v6)]) (st' := [.int v6, .int v5, .ref 247]) (pc' := 66) hk (.iload_n 3) 1 rfl rfl rfl rfl ?_
    obtain ⟨v12, M11, hc13, hx⟩ := bnd2_some hx
    refine ev_cv 164 2 [.int v12] 69 hk rfl rfl rfl rfl lk_model rfl rfl rfl (rM_sews hc13) rfl rfl rfl rfl ?_
    cases hx
    obtain rfl := hM
    exact ev_retI hk rfl rfl
  refine ev_ts 2 70 hk rfl rfl (by decide +kernel) hx (fun hc hx => ?_) (fun hn2 hx => ?_)
  · refine ev_ls (L' := [some (.ref 247), some (.int a1), some (.int v5), some (.int v6)]) (st' := [.ref 247]) (pc' := 71) hk (.aload_n 0) 1 rfl rfl rfl rfl ?_
    refine ev_ls (L' := [some (.ref 247), some (.int a1), some (.int v5), some (.int v6)]) (st' := [.int v5, .ref 247]) (pc' := 72) hk (.iload_n 2) 1 rfl rfl rfl rfl ?_
    refine ev_ls (L' := [some (.ref 247), some (.int a1), some (.int v5), some (.int v6)]) (st' := [.int v6, .int v5, .ref 247]) (pc' := 73) hk (.iload_n 3) 1 rfl rfl rfl rfl ?_
    obtain ⟨v15, M14, hc16, hx⟩ := bnd2_some hx
    refine ev_cv 174 2 [.int v15] 76 hk rfl rfl rfl rfl lk_model rfl rfl rfl (rM_steps hc16) rfl rfl rfl rfl ?_
    cases hx
    obtain rfl := hM
    exact ev_retI hk rfl rfl
  refine ev_ts 3 77 hk rfl rfl (by decide +kernel) hx (fun hc hx => ?_) (fun hn3 hx => ?_)
  · refine ev_ls (L' := [some (.ref 247), some (.int a1), some (.int v5), some (.int v6)]) (st' := [.ref 247]) (pc' := 78) hk (.aload_n 0) 1 rfl rfl rfl rfl ?_
    refine ev_ls (L' := [some (.ref 247), some (.int a1), some (.int v5), some (.int v6)]) (st' := [.int v5, .ref 247]) (pc' := 79) hk (.iload_n 2) 1 rfl rfl rfl rfl ?_
    refine ev_ls (L' := [some (.ref 247), some (.int a1), some (.int v5), some (.int v6)]) (st' := [.int v6, .int v5, .ref 247]) (pc' := 80) hk (.iload_n 3) 1 rfl rfl rfl rfl ?_
    refine ev_ls (L' := [some (.ref 247), some (.int a1), some (.int v5), some (.int v6)]) (st' := [.ref 247, .int v6, .int v5, .ref 247]) (pc' := 81) hk (.aload_n 0) 1 rfl rfl rfl rfl ?_
    refine ev_gf (.ref 257) 84 hk rfl rfl lk_model rfl rfl ?_
    refine ev_ls (L' := [some (.ref 247), some (.int a1), some (.int v5), some (.int v6)]) (st' := [.int a1, .ref 257, .int v6, .int v5, .ref 247]) (pc' := 85) hk (.iload_n 1) 1 rfl rfl rfl rfl ?_
    obtain ⟨v17, hv17, hx⟩ := bnd_some hx
    refine ev_ial hv17 86 hk rfl lk_m257 rfl ?_
    obtain ⟨v19, M18, hc20, hx⟩ := bnd2_some hx
    refine ev_cv 179 3 [.int v19] 89 hk rfl rfl rfl rfl lk_model rfl rfl rfl (rM_tells hc20) rfl rfl rfl rfl ?_
    cases hx
    obtain rfl := hM
    exact ev_retI hk rfl rfl
  refine ev_ts 4 90 hk rfl rfl (by decide +kernel) hx (fun hc hx => ?_) (fun hn4 hx => ?_)
  · refine ev_ls (L' := [some (.ref 247), some (.int a1), some (.int v5), some (.int v6)]) (st' := [.ref 247]) (pc' := 91) hk (.aload_n 0) 1 rfl rfl rfl rfl ?_
    refine ev_ls (L' := [some (.ref 247), some (.int a1), some (.int v5), some (.int v6)]) (st' := [.int v5, .ref 247]) (pc' := 92) hk (.iload_n 2) 1 rfl rfl rfl rfl ?_
    obtain ⟨v22, M21, hc23, hx⟩ := bnd2_some hx
    refine ev_cv 158 1 [.int v22] 95 hk rfl rfl rfl rfl lk_model rfl rfl rfl (rM_rips hc23) rfl rfl rfl rfl ?_
    cases hx
    obtain rfl := hM
    exact ev_retI hk rfl rfl
  refine ev_tsd 96 (lo := 0) (n := 4) hk rfl (ts_all0_4 hn0 hn1 hn2 hn3 hn4) (by decide) (by decide +kernel) rfl ?_
  refine ev_ls (L' := [some (.ref 247), some (.int a1), some (.int v5), some (.int v6)]) (st' := [.ref 247]) (pc' := 97) hk (.aload_n 0) 1 rfl rfl rfl rfl ?_
  refine ev_ls (L' := [some (.ref 247), some (.int a1), some (.int v5), some (.int v6)]) (st' := [.int v5, .ref 247]) (pc' := 98) hk (.iload_n 2) 1 rfl rfl rfl rfl ?_
  obtain ⟨v25, M24, hc26, hx⟩ := bnd2_some hx
  refine ev_cv 149 1 [.int v25] 101 hk rfl rfl rfl rfl lk_model rfl rfl rfl (rM_passes hc26) rfl rfl rfl rfl ?_
  cases hx
  obtain rfl := hM
  exact ev_retI hk rfl rfl
set_option maxRecDepth 2000 in
theorem rM_isDone {S : Nat} {xs : Nat → Int32} {I : zI} {C : zC} {Y : Nat → Int32} {Γ : Nat → zG} {D : zD} {O : Nat → Int32} {M : zM} {ou : Nat → Int64} {od : Nat → UInt64} {j : Nat} {a1 : Int32} {X : Bool × zM}   (hx : fM_isDone M a1 = some X) : Ev S xs 81 0 [some (.ref 247), some (.int a1)] [] (zH I C Y Γ D O M ou od j) (((.inl (some (.int (b2i X.1)))), (zH I C Y Γ D O X.2 ou od j)) : (Option Value ⊕ String) × px_H) := by
  generalize hM : (((.inl (some (.int (b2i X.1)))), (zH I C Y Γ D O X.2 ou od j)) : (Option Value ⊕ String) × px_H) = y
  replace hM := hM.symm
  have hk : pt_mt[81]? = some pt_r81 := rfl
  unfold fM_isDone at hx
  refine ev_ls (L' := [some (.ref 247), some (.int a1)]) (st' := [.ref 247]) (pc' := 1) hk (.aload_n 0) 1 rfl rfl rfl rfl ?_
  refine ev_ls (L' := [some (.ref 247), some (.int a1)]) (st' := [.int a1, .ref 247]) (pc' := 2) hk (.iload_n 1) 1 rfl rfl rfl rfl ?_
  obtain ⟨v2, hc3, hx⟩ := bnd_some hx
  refine ev_cv 129 1 [.int (b2i v2)] 5 hk rfl rfl rfl rfl lk_model rfl rfl rfl (rM_may hc3) rfl rfl rfl rfl ?_
  refine ev_d1 10 8 hk rfl rfl rfl rfl (px_bne hx (fun hc hx => ?_) (fun hc hx => ?_))
  · refine ev_ls (L' := [some (.ref 247), some (.int a1)]) (st' := [.ref 247]) (pc' := 11) hk (.aload_n 0) 1 rfl rfl rfl rfl ?_
    refine ev_ls (L' := [some (.ref 247), some (.int a1)]) (st' := [.ref 247, .ref 247]) (pc' := 12) hk (.aload_n 0) 1 rfl rfl rfl rfl ?_
    refine ev_ls (L' := [some (.ref 247), some (.int a1)]) (st' := [.int a1, .ref 247, .ref 247]) (pc' := 13) hk (.iload_n 1) 1 rfl rfl rfl rfl ?_
    obtain ⟨v5, M4, hc6, hx⟩ := bnd2_some hx
    refine ev_cv 47 1 [.int v5, .ref 247] 16 hk rfl rfl rfl rfl lk_model rfl rfl rfl (rM_does hc6) rfl rfl rfl rfl ?_
    obtain ⟨M7, hM7, hx⟩ := bnd_some hx
    have hM7 := Option.some.inj hM7
    refine ev_pf 19 hk rfl rfl lk_model rfl rfl rfl (sf_8_29 hM7) rfl ?_
    refine ev_op (st' := [.int 1]) (pc' := 20) hk (.iconst 1) 1 rfl rfl rfl ?_
    cases hx
    obtain rfl := hM
    exact ev_retZ true rfl hk rfl rfl
  · refine ev_op (st' := [.int 0]) (pc' := 9) hk (.iconst 0) 1 rfl rfl rfl ?_
    cases hx
    obtain rfl := hM
    exact ev_retZ false rfl hk rfl rfl
def qM_doesAll_9 (S : Nat) (xs : Nat → Int32) (I : zI) (C : zC) (Y : Nat → Int32) (Γ : Nat → zG) (D : zD) (O : Nat → Int32) (ou : Nat → Int64) (od : Nat → UInt64) (j : Nat) (y : (Option Value ⊕ String) × px_H) (s : zM × Int32 × Int32 × Int32 × Bool) : Prop := ∀ (u5 : Option Value) (hu5 : px_cz u5 = true), Ev S xs 48 9 [some (.ref 247), some (.int s.2.1), some (.int s.2.2.1), some (.int s.2.2.2.1), some (.int (b2i s.2.2.2.2)), u5] [] (zH I C Y Γ D O s.1 ou od j) y
set_option maxRecDepth 4000 in
theorem rM_doesAll_j141 {S : Nat} {xs : Nat → Int32} {I : zI} {C : zC} {Y : Nat → Int32} {Γ : Nat → zG} {D : zD} {O : Nat → Int32} {M : zM} {ou : Nat → Int64} {od : Nat → UInt64} {j : Nat} {a1 : Int32} {a3 : Int32} {a4 : Bool} {a0t : Bool} {a1t : Int32} {y : (Option Value ⊕ String) × px_H} {x : (zM × Int32 × Int32 × Int32 × Bool) ⊕ (Int32 × zM)}  (hx : fM_doesAll_j141 M a1 a3 a4 a0t a1t = some x) (hM : (Sum.elim (qM_doesAll_9 S xs I C Y Γ D O ou od j y) (fun X : Int32 × zM => y = (((.inl (some (.int X.1))), (zH I C Y Γ D O X.2 ou od j)) : (Option Value ⊕ String) × px_H))) x) (u2 : Option Value) (hu2 : px_cz u2 = true) (u5 : Option Value) (hu5 : px_cz u5 = true) : Ev S xs 48 141 [some (.ref 247), some (.int a1), u2, some (.int a3), some (.int (b2i a4)), u5] [.int (b2i a0t), .int a1t] (zH I C Y Γ D O M ou od j) y := by
  have hk : pt_mt[48]? = some pt_r48 := rfl
  unfold fM_doesAll_j141 at hx
  refine ev_cs 189 1 [.int (fM_truth a0t), .int a1t] 144 hk rfl rfl (by decide) rfl rfl rfl (rM_truth rfl) rfl rfl rfl rfl ?_
  refine ev_op (st' := [.int (a1t - (fM_truth a0t))]) (pc' := 145) hk (.isub) 1 rfl rfl rfl ?_
  refine ev_ls (L' := [some (.ref 247), some (.int a1), some (.int (a1t - (fM_truth a0t))), some (.int a3), some (.int (b2i a4)), u5]) (st' := []) (pc' := 146) hk (.istore_n 2) 1 rfl rfl rfl rfl ?_
  refine ev_jp (pc' := 9) (st' := []) hk (.goto (-137)) 3 rfl rfl rfl rfl rfl ?_
  cases hx
  exact hM u5 hu5
set_option maxRecDepth 4000 in
theorem rM_doesAll_j129 {S : Nat} {xs : Nat → Int32} {I : zI} {C : zC} {Y : Nat → Int32} {Γ : Nat → zG} {D : zD} {O : Nat → Int32} {M : zM} {ou : Nat → Int64} {od : Nat → UInt64} {j : Nat} {a1 : Int32} {a2 : Int32} {a4 : Bool} {a5 : Bool} {a0t : Int32} {y : (Option Value ⊕ String) × px_H} {x : (zM × Int32 × Int32 × Int32 × Bool) ⊕ (Int32 × zM)}  (hx : fM_doesAll_j129 M a1 a2 a4 a5 a0t = some x) (hM : (Sum.elim (qM_doesAll_9 S xs I C Y Γ D O ou od j y) (fun X : Int32 × zM => y = (((.inl (some (.int X.1))), (zH I C Y Γ D O X.2 ou od j)) : (Option Value ⊕ String) × px_H))) x) (u3 : Option Value) (hu3 : px_cz u3 = true) : Ev S xs 48 129 [some (.ref 247), some (.int a1), some (.int a2), u3, some (.int (b2i a4)), some (.int (b2i a5))] [.int a0t] (zH I C Y Γ D O M ou od j) y := by
  have hk : pt_mt[48]? = some pt_r48 := rfl
  unfold fM_doesAll_j129 at hx
  refine ev_ls (L' := [some (.ref 247), some (.int a1), some (.int a2), some (.int a0t), some (.int (b2i a4)), some (.int (b2i a5))]) (st' := []) (pc' := 130) hk (.istore_n 3) 1 rfl rfl rfl rfl ?_
  refine ev_ls (L' := [some (.ref 247), some (.int a1), some (.int a2), some (.int a0t), some (.int (b2i a4)), some (.int (b2i a5))]) (st' := [.int a2]) (pc' := 131) hk (.iload_n 2) 1 rfl rfl rfl rfl ?_
  refine ev_ls (L' := [some (.ref 247), some (.int a1), some (.int a2), some (.int a0t), some (.int (b2i a4)), some (.int (b2i a5))]) (st' := [.int (b2i a5), .int a2]) (pc' := 133) hk (.iload 5) 2 rfl rfl rfl rfl ?_
  refine ev_d1 140 136 hk rfl rfl rfl rfl (px_bne hx (fun hc hx => ?_) (fun hc hx => ?_))
  · refine ev_op (st' := [.int 0, .int a2]) (pc' := 141) hk (.iconst 0) 1 rfl rfl rfl ?_
    exact rM_doesAll_j141 hx hM (some (.int a2)) rfl (some (.int (b2i a5))) rfl
  · refine ev_op (st' := [.int 1, .int a2]) (pc' := 137) hk (.iconst 1) 1 rfl rfl rfl ?_
    refine ev_jp (pc' := 141) (st' := [.int 1, .int a2]) hk (.goto 4) 3 rfl rfl rfl rfl rfl ?_
    exact rM_doesAll_j141 hx hM (some (.int a2)) rfl (some (.int (b2i a5))) rfl
set_option maxRecDepth 4000 in
theorem rM_doesAll_j106 {S : Nat} {xs : Nat → Int32} {I : zI} {C : zC} {Y : Nat → Int32} {Γ : Nat → zG} {D : zD} {O : Nat → Int32} {M : zM} {ou : Nat → Int64} {od : Nat → UInt64} {j : Nat} {a1 : Int32} {a2 : Int32} {a3 : Int32} {a4 : Bool} {a0t : Bool} {y : (Option Value ⊕ String) × px_H} {x : (zM × Int32 × Int32 × Int32 × Bool) ⊕ (Int32 × zM)}  (hx : fM_doesAll_j106 M a1 a2 a3 a4 a0t = some x) (hM : (Sum.elim (qM_doesAll_9 S xs I C Y Γ D O ou od j y) (fun X : Int32 × zM => y = (((.inl (some (.int X.1))), (zH I C Y Γ D O X.2 ou od j)) : (Option Value ⊕ String) × px_H))) x) (u5 : Option Value) (hu5 : px_cz u5 = true) : Ev S xs 48 106 [some (.ref 247), some (.int a1), some (.int a2), some (.int a3), some (.int (b2i a4)), u5] [.int (b2i a0t)] (zH I C Y Γ D O M ou od j) y := by
  have hk : pt_mt[48]? = some pt_r48 := rfl
  unfold fM_doesAll_j106 at hx
  refine ev_ls (L' := [some (.ref 247), some (.int a1), some (.int a2), some (.int a3), some (.int (b2i a4)), some (.int (b2i a0t))]) (st' := []) (pc' := 108) hk (.istore 5) 2 rfl rfl rfl rfl ?_
  refine ev_ls (L' := [some (.ref 247), some (.int a1), some (.int a2), some (.int a3), some (.int (b2i a4)), some (.int (b2i a0t))]) (st' := [.int (b2i a0t)]) (pc' := 110) hk (.iload 5) 2 rfl rfl rfl rfl ?_
  refine ev_d1 126 113 hk rfl rfl rfl rfl (px_beq hx (fun hc hx => ?_) (fun hc hx => ?_))
  · refine ev_ls (L' := [some (.ref 247), some (.int a1), some (.int a2), some (.int a3), some (.int (b2i a4)), some (.int (b2i a0t))]) (st' := [.int a3]) (pc' := 127) hk (.iload_n 3) 1 rfl rfl rfl rfl ?_
    refine ev_op (st' := [.int 1, .int a3]) (pc' := 128) hk (.iconst 1) 1 rfl rfl rfl ?_
    refine ev_op (st' := [.int (a3 + 1)]) (pc' := 129) hk (.iadd) 1 rfl rfl rfl ?_
    exact rM_doesAll_j129 hx hM (some (.int a3)) rfl
  · refine ev_ls (L' := [some (.ref 247), some (.int a1), some (.int a2), some (.int a3), some (.int (b2i a4)), some (.int (b2i a0t))]) (st' := [.ref 247]) (pc' := 114) hk (.aload_n 0) 1 rfl rfl rfl rfl ?_
    refine ev_gf (.ref 258) 117 hk rfl rfl lk_model rfl rfl ?_
    refine ev_ls (L' := [some (.ref 247), some (.int a1), some (.int a2), some (.int a3), some (.int (b2i a4)), some (.int (b2i a0t))]) (st' := [.int a2, .ref 258]) (pc' := 118) hk (.iload_n 2) 1 rfl rfl rfl rfl ?_
    refine ev_op (st' := [.int 1, .int a2, .ref 258]) (pc' := 119) hk (.iconst 1) 1 rfl rfl rfl ?_
    refine ev_op (st' := [.int (a2 - 1), .ref 258]) (pc' := 120) hk (.isub) 1 rfl rfl rfl ?_
    obtain ⟨v44, hv44, hx⟩ := bnd_some hx
    refine ev_ial hv44 121 hk rfl lk_m258 rfl ?_
    refine ev_op (st' := [.int 1, .int v44]) (pc' := 122) hk (.iconst 1) 1 rfl rfl rfl ?_
    refine ev_op (st' := [.int (v44 + 1)]) (pc' := 123) hk (.iadd) 1 rfl rfl rfl ?_
    refine ev_jp (pc' := 129) (st' := [.int (v44 + 1)]) hk (.goto 6) 3 rfl rfl rfl rfl rfl ?_
    exact rM_doesAll_j129 hx hM (some (.int a3)) rfl
set_option maxRecDepth 4000 in
theorem rM_doesAll_b9 {S : Nat} {xs : Nat → Int32} {I : zI} {C : zC} {Y : Nat → Int32} {Γ : Nat → zG} {D : zD} {O : Nat → Int32} {ou : Nat → Int64} {od : Nat → UInt64} {j : Nat}  {y : (Option Value ⊕ String) × px_H} {s : zM × Int32 × Int32 × Int32 × Bool} {x : (zM × Int32 × Int32 × Int32 × Bool) ⊕ (Int32 × zM)}  (hx : fM_doesAll_b9 s.1 s.2.1 s.2.2.1 s.2.2.2.1 s.2.2.2.2 = some x) (hM : (Sum.elim (qM_doesAll_9 S xs I C Y Γ D O ou od j y) (fun X : Int32 × zM => y = (((.inl (some (.int X.1))), (zH I C Y Γ D O X.2 ou od j)) : (Option Value ⊕ String) × px_H))) x) : qM_doesAll_9 S xs I C Y Γ D O ou od j y s := by
  obtain ⟨M, a1, a2, a3, a4⟩ := s
  intro u5 hu5
  have hk : pt_mt[48]? = some pt_r48 := rfl
  unfold fM_doesAll_b9 at hx
  try dsimp only at hx
  refine ev_ls (L' := [some (.ref 247), some (.int a1), some (.int a2), some (.int a3), some (.int (b2i a4)), u5]) (st' := [.int (b2i a4)]) (pc' := 11) hk (.iload 4) 2 rfl rfl rfl rfl ?_
  refine ev_d1 170 14 hk rfl rfl rfl rfl (px_beq hx (fun hc hx => ?_) (fun hc hx => ?_))
  · refine ev_ls (L' := [some (.ref 247), some (.int a1), some (.int a2), some (.int a3), some (.int (b2i a4)), u5]) (st' := [.int a1]) (pc' := 171) hk (.iload_n 1) 1 rfl rfl rfl rfl ?_
    cases hx
    obtain rfl := hM
    exact ev_retI hk rfl rfl
  · refine ev_ls (L' := [some (.ref 247), some (.int a1), some (.int a2), some (.int a3), some (.int (b2i a4)), u5]) (st' := [.int a3]) (pc' := 15) hk (.iload_n 3) 1 rfl rfl rfl rfl ?_
    refine ev_ls (L' := [some (.ref 247), some (.int a1), some (.int a2), some (.int a3), some (.int (b2i a4)), u5]) (st' := [.ref 247, .int a3]) (pc' := 16) hk (.aload_n 0) 1 rfl rfl rfl rfl ?_
    refine ev_gf (.int (mF M 26)) 19 hk rfl rfl lk_model rfl rfl ?_
    refine ev_d2 170 22 hk rfl rfl rfl rfl (px_cge hx (fun hc hx => ?_) (fun hc hx => ?_))
    · refine ev_ls (L' := [some (.ref 247), some (.int a1), some (.int a2), some (.int a3), some (.int (b2i a4)), u5]) (st' := [.int a1]) (pc' := 171) hk (.iload_n 1) 1 rfl rfl rfl rfl ?_
      cases hx
      obtain rfl := hM
      exact ev_retI hk rfl rfl
    · refine ev_ls (L' := [some (.ref 247), some (.int a1), some (.int a2), some (.int a3), some (.int (b2i a4)), u5]) (st' := [.int a1]) (pc' := 23) hk (.iload_n 1) 1 rfl rfl rfl rfl ?_
      refine ev_op (st' := [.int 40, .int a1]) (pc' := 25) hk (.bipush 40) 2 rfl rfl rfl ?_
      refine ev_d2 170 28 hk rfl rfl rfl rfl (px_cge hx (fun hc hx => ?_) (fun hc hx => ?_))
      · refine ev_ls (L' := [some (.ref 247), some (.int a1), some (.int a2), some (.int a3), some (.int (b2i a4)), u5]) (st' := [.int a1]) (pc' := 171) hk (.iload_n 1) 1 rfl rfl rfl rfl ?_
        cases hx
        obtain rfl := hM
        exact ev_retI hk rfl rfl
      · refine ev_ls (L' := [some (.ref 247), some (.int a1), some (.int a2), some (.int a3), some (.int (b2i a4)), u5]) (st' := [.ref 247]) (pc' := 29) hk (.aload_n 0) 1 rfl rfl rfl rfl ?_
        refine ev_gf (.ref 254) 32 hk rfl rfl lk_model rfl rfl ?_
        refine ev_ls (L' := [some (.ref 247), some (.int a1), some (.int a2), some (.int a3), some (.int (b2i a4)), u5]) (st' := [.int a3, .ref 254]) (pc' := 33) hk (.iload_n 3) 1 rfl rfl rfl rfl ?_
        obtain ⟨v45, hv45, hx⟩ := bnd_some hx
        refine ev_ial hv45 34 hk rfl lk_m254 rfl ?_
        refine ev_op (st' := [.int 6, .int v45]) (pc' := 36) hk (.bipush 6) 2 rfl rfl rfl ?_
        refine ev_d2 67 39 hk rfl rfl rfl rfl (px_cne hx (fun hc hx => ?_) (fun hc hx => ?_))
        · refine ev_ls (L' := [some (.ref 247), some (.int a1), some (.int a2), some (.int a3), some (.int (b2i a4)), u5]) (st' := [.ref 247]) (pc' := 68) hk (.aload_n 0) 1 rfl rfl rfl rfl ?_
          refine ev_gf (.ref 254) 71 hk rfl rfl lk_model rfl rfl ?_
          refine ev_ls (L' := [some (.ref 247), some (.int a1), some (.int a2), some (.int a3), some (.int (b2i a4)), u5]) (st' := [.int a3, .ref 254]) (pc' := 72) hk (.iload_n 3) 1 rfl rfl rfl rfl ?_
          obtain ⟨v46, hv46, hx⟩ := bnd_some hx
          refine ev_ial hv46 73 hk rfl lk_m254 rfl ?_
          refine ev_op (st' := [.int 7, .int v46]) (pc' := 75) hk (.bipush 7) 2 rfl rfl rfl ?_
          refine ev_d2 149 78 hk rfl rfl rfl rfl (px_cne hx (fun hc hx => ?_) (fun hc hx => ?_))
          · refine ev_ls (L' := [some (.ref 247), some (.int a1), some (.int a2), some (.int a3), some (.int (b2i a4)), u5]) (st' := [.ref 247]) (pc' := 150) hk (.aload_n 0) 1 rfl rfl rfl rfl ?_
            refine ev_ls (L' := [some (.ref 247), some (.int a1), some (.int a2), some (.int a3), some (.int (b2i a4)), u5]) (st' := [.int a3, .ref 247]) (pc' := 151) hk (.iload_n 3) 1 rfl rfl rfl rfl ?_
            obtain ⟨v48, M47, hc49, hx⟩ := bnd2_some hx
            refine ev_cv 81 1 [.int (b2i v48)] 154 hk rfl rfl rfl rfl lk_model rfl rfl rfl (rM_isDone hc49) rfl rfl rfl rfl ?_
            refine ev_ls (L' := [some (.ref 247), some (.int a1), some (.int a2), some (.int a3), some (.int (b2i v48)), u5]) (st' := []) (pc' := 156) hk (.istore 4) 2 rfl rfl rfl rfl ?_
            refine ev_ls (L' := [some (.ref 247), some (.int a1), some (.int a2), some (.int a3), some (.int (b2i v48)), u5]) (st' := [.int a1]) (pc' := 157) hk (.iload_n 1) 1 rfl rfl rfl rfl ?_
            refine ev_ls (L' := [some (.ref 247), some (.int a1), some (.int a2), some (.int a3), some (.int (b2i v48)), u5]) (st' := [.int (b2i v48), .int a1]) (pc' := 159) hk (.iload 4) 2 rfl rfl rfl rfl ?_
            refine ev_cs 189 1 [.int (fM_truth v48), .int a1] 162 hk rfl rfl (by decide) rfl rfl rfl (rM_truth rfl) rfl rfl rfl rfl ?_
            refine ev_op (st' := [.int (a1 + (fM_truth v48))]) (pc' := 163) hk (.iadd) 1 rfl rfl rfl ?_
            refine ev_ls (L' := [some (.ref 247), some (.int (a1 + (fM_truth v48))), some (.int a2), some (.int a3), some (.int (b2i v48)), u5]) (st' := []) (pc' := 164) hk (.istore_n 1) 1 rfl rfl rfl rfl ?_
            refine ev_ls (L' := [some (.ref 247), some (.int (a1 + (fM_truth v48))), some (.int a2), some (.int (a3 + 1)), some (.int (b2i v48)), u5]) (st' := []) (pc' := 167) hk (.iinc 3 1) 3 rfl rfl rfl rfl ?_
            refine ev_jp (pc' := 9) (st' := []) hk (.goto (-158)) 3 rfl rfl rfl rfl rfl ?_
            cases hx
            exact hM u5 hu5
          · refine ev_ls (L' := [some (.ref 247), some (.int a1), some (.int a2), some (.int a3), some (.int (b2i a4)), u5]) (st' := [.ref 247]) (pc' := 79) hk (.aload_n 0) 1 rfl rfl rfl rfl ?_
            refine ev_gf (.ref 259) 82 hk rfl rfl lk_model rfl rfl ?_
            refine ev_ls (L' := [some (.ref 247), some (.int a1), some (.int a2), some (.int a3), some (.int (b2i a4)), u5]) (st' := [.int a2, .ref 259]) (pc' := 83) hk (.iload_n 2) 1 rfl rfl rfl rfl ?_
            refine ev_op (st' := [.int 1, .int a2, .ref 259]) (pc' := 84) hk (.iconst 1) 1 rfl rfl rfl ?_
            refine ev_op (st' := [.int (a2 - 1), .ref 259]) (pc' := 85) hk (.isub) 1 rfl rfl rfl ?_
            refine ev_op (st' := [.int (a2 - 1), .ref 259, .int (a2 - 1), .ref 259]) (pc' := 86) hk (.dup2) 1 rfl rfl rfl ?_
            obtain ⟨v50, hv50, hx⟩ := bnd_some hx
            refine ev_ial hv50 87 hk rfl lk_m259 rfl ?_
            refine ev_op (st' := [.int 1, .int v50, .int (a2 - 1), .ref 259]) (pc' := 88) hk (.iconst 1) 1 rfl rfl rfl ?_
            refine ev_op (st' := [.int (v50 - 1), .int (a2 - 1), .ref 259]) (pc' := 89) hk (.isub) 1 rfl rfl rfl ?_
            obtain ⟨A51, hA51, hx⟩ := bnd_some hx
            obtain ⟨M52, hM52, hx⟩ := bnd_some hx
            have hM52 := Option.some.inj hM52
            refine ev_ias hA51 90 hk rfl lk_m259 (sa_m259 hM52) rfl ?_
            refine ev_ls (L' := [some (.ref 247), some (.int a1), some (.int a2), some (.int a3), some (.int (b2i a4)), u5]) (st' := [.ref 247]) (pc' := 91) hk (.aload_n 0) 1 rfl rfl rfl rfl ?_
            refine ev_gf (.ref 259) 94 hk rfl rfl lk_model rfl rfl ?_
            refine ev_ls (L' := [some (.ref 247), some (.int a1), some (.int a2), some (.int a3), some (.int (b2i a4)), u5]) (st' := [.int a2, .ref 259]) (pc' := 95) hk (.iload_n 2) 1 rfl rfl rfl rfl ?_
            refine ev_op (st' := [.int 1, .int a2, .ref 259]) (pc' := 96) hk (.iconst 1) 1 rfl rfl rfl ?_
            refine ev_op (st' := [.int (a2 - 1), .ref 259]) (pc' := 97) hk (.isub) 1 rfl rfl rfl ?_
            obtain ⟨v53, hv53, hx⟩ := bnd_some hx
            refine ev_ial hv53 98 hk rfl lk_m259 rfl ?_
            refine ev_d1 105 101 hk rfl rfl rfl rfl (px_cle hx (fun hc hx => ?_) (fun hc hx => ?_))
            · refine ev_op (st' := [.int 0]) (pc' := 106) hk (.iconst 0) 1 rfl rfl rfl ?_
              exact rM_doesAll_j106 hx hM u5 hu5
            · refine ev_op (st' := [.int 1]) (pc' := 102) hk (.iconst 1) 1 rfl rfl rfl ?_
              refine ev_jp (pc' := 106) (st' := [.int 1]) hk (.goto 4) 3 rfl rfl rfl rfl rfl ?_
              exact rM_doesAll_j106 hx hM u5 hu5
        · refine ev_ls (L' := [some (.ref 247), some (.int a1), some (.int a2), some (.int a3), some (.int (b2i a4)), u5]) (st' := [.ref 247]) (pc' := 40) hk (.aload_n 0) 1 rfl rfl rfl rfl ?_
          refine ev_gf (.ref 258) 43 hk rfl rfl lk_model rfl rfl ?_
          refine ev_ls (L' := [some (.ref 247), some (.int a1), some (.int a2), some (.int a3), some (.int (b2i a4)), u5]) (st' := [.int a2, .ref 258]) (pc' := 44) hk (.iload_n 2) 1 rfl rfl rfl rfl ?_
          refine ev_ls (L' := [some (.ref 247), some (.int a1), some (.int a2), some (.int a3), some (.int (b2i a4)), u5]) (st' := [.int a3, .int a2, .ref 258]) (pc' := 45) hk (.iload_n 3) 1 rfl rfl rfl rfl ?_
          obtain ⟨A54, hA54, hx⟩ := bnd_some hx
          obtain ⟨M55, hM55, hx⟩ := bnd_some hx
          have hM55 := Option.some.inj hM55
          refine ev_ias hA54 46 hk rfl lk_m258 (sa_m258 hM55) rfl ?_
          refine ev_ls (L' := [some (.ref 247), some (.int a1), some (.int a2), some (.int a3), some (.int (b2i a4)), u5]) (st' := [.ref 247]) (pc' := 47) hk (.aload_n 0) 1 rfl rfl rfl rfl ?_
          refine ev_gf (.ref 259) 50 hk rfl rfl lk_model rfl rfl ?_
          refine ev_ls (L' := [some (.ref 247), some (.int a1), some (.int a2), some (.int a3), some (.int (b2i a4)), u5]) (st' := [.int a2, .ref 259]) (pc' := 51) hk (.iload_n 2) 1 rfl rfl rfl rfl ?_
          refine ev_ls (L' := [some (.ref 247), some (.int a1), some (.int a2), some (.int a3), some (.int (b2i a4)), u5]) (st' := [.ref 247, .int a2, .ref 259]) (pc' := 52) hk (.aload_n 0) 1 rfl rfl rfl rfl ?_
          refine ev_gf (.ref 255) 55 hk rfl rfl lk_model rfl rfl ?_
          refine ev_ls (L' := [some (.ref 247), some (.int a1), some (.int a2), some (.int a3), some (.int (b2i a4)), u5]) (st' := [.int a3, .ref 255, .int a2, .ref 259]) (pc' := 56) hk (.iload_n 3) 1 rfl rfl rfl rfl ?_
          obtain ⟨v56, hv56, hx⟩ := bnd_some hx
          refine ev_ial hv56 57 hk rfl lk_m255 rfl ?_
          obtain ⟨A57, hA57, hx⟩ := bnd_some hx
          obtain ⟨M58, hM58, hx⟩ := bnd_some hx
          have hM58 := Option.some.inj hM58
          refine ev_ias hA57 58 hk rfl lk_m259 (sa_m259 hM58) rfl ?_
          refine ev_ls (L' := [some (.ref 247), some (.int a1), some (.int (a2 + 1)), some (.int a3), some (.int (b2i a4)), u5]) (st' := []) (pc' := 61) hk (.iinc 2 1) 3 rfl rfl rfl rfl ?_
          refine ev_ls (L' := [some (.ref 247), some (.int a1), some (.int (a2 + 1)), some (.int (a3 + 1)), some (.int (b2i a4)), u5]) (st' := []) (pc' := 64) hk (.iinc 3 1) 3 rfl rfl rfl rfl ?_
          refine ev_jp (pc' := 9) (st' := []) hk (.goto (-55)) 3 rfl rfl rfl rfl rfl ?_
          cases hx
          exact hM u5 hu5
set_option maxRecDepth 2000 in
theorem rM_doesAll {S : Nat} {xs : Nat → Int32} {I : zI} {C : zC} {Y : Nat → Int32} {Γ : Nat → zG} {D : zD} {O : Nat → Int32} {M : zM} {ou : Nat → Int64} {od : Nat → UInt64} {j : Nat}  {X : Int32 × zM}   (hx : fM_doesAll M = some X) : Ev S xs 48 0 [some (.ref 247), none, none, none, none, none] [] (zH I C Y Γ D O M ou od j) (((.inl (some (.int X.1))), (zH I C Y Γ D O X.2 ou od j)) : (Option Value ⊕ String) × px_H) := by
  generalize hM : (((.inl (some (.int X.1))), (zH I C Y Γ D O X.2 ou od j)) : (Option Value ⊕ String) × px_H) = y
  replace hM := hM.symm
  have hk : pt_mt[48]? = some pt_r48 := rfl
  unfold fM_doesAll at hx
  refine ev_op (st' := [.int 0]) (pc' := 1) hk (.iconst 0) 1 rfl rfl rfl ?_
  refine ev_ls (L' := [some (.ref 247), some (.int 0), none, none, none, none]) (st' := []) (pc' := 2) hk (.istore_n 1) 1 rfl rfl rfl rfl ?_
  refine ev_op (st' := [.int 0]) (pc' := 3) hk (.iconst 0) 1 rfl rfl rfl ?_
  refine ev_ls (L' := [some (.ref 247), some (.int 0), some (.int 0), none, none, none]) (st' := []) (pc' := 4) hk (.istore_n 2) 1 rfl rfl rfl rfl ?_
  refine ev_op (st' := [.int 0]) (pc' := 5) hk (.iconst 0) 1 rfl rfl rfl ?_
  refine ev_ls (L' := [some (.ref 247), some (.int 0), some (.int 0), some (.int 0), none, none]) (st' := []) (pc' := 6) hk (.istore_n 3) 1 rfl rfl rfl rfl ?_
  refine ev_op (st' := [.int 1]) (pc' := 7) hk (.iconst 1) 1 rfl rfl rfl ?_
  refine ev_ls (L' := [some (.ref 247), some (.int 0), some (.int 0), some (.int 0), some (.int 1), none]) (st' := []) (pc' := 9) hk (.istore 4) 2 rfl rfl rfl rfl ?_
  exact ev_iter (qM_doesAll_9 S xs I C Y Γ D O ou od j _) (fun X : Int32 × zM => y = (((.inl (some (.int X.1))), (zH I C Y Γ D O X.2 ou od j)) : (Option Value ⊕ String) × px_H)) (fun s x hb hM => rM_doesAll_b9 hb hM) fu _ _ hx hM none rfl
def qM_runScript_19 (S : Nat) (xs : Nat → Int32) (I : zI) (C : zC) (Y : Nat → Int32) (Γ : Nat → zG) (D : zD) (O : Nat → Int32) (ou : Nat → Int64) (od : Nat → UInt64) (j : Nat) (y : (Option Value ⊕ String) × px_H) (s : zM) : Prop := ∀ (u1 : Option Value) (hu1 : px_cz u1 = true), Ev S xs 159 19 [some (.ref 247), u1] [] (zH I C Y Γ D O s ou od j) y
set_option maxRecDepth 4000 in
theorem rM_runScript_j56 {S : Nat} {xs : Nat → Int32} {I : zI} {C : zC} {Y : Nat → Int32} {Γ : Nat → zG} {D : zD} {O : Nat → Int32} {M : zM} {ou : Nat → Int64} {od : Nat → UInt64} {j : Nat}  {y : (Option Value ⊕ String) × px_H} {x : (zM) ⊕ (Int32 × zM)}  (hx : fM_runScript_j56 M = some x) (hM : (Sum.elim (qM_runScript_19 S xs I C Y Γ D O ou od j y) (fun X : Int32 × zM => y = (((.inl (some (.int X.1))), (zH I C Y Γ D O X.2 ou od j)) : (Option Value ⊕ String) × px_H))) x) (u1 : Option Value) (hu1 : px_cz u1 = true) : Ev S xs 159 56 [some (.ref 247), u1] [] (zH I C Y Γ D O M ou od j) y := by
  have hk : pt_mt[159]? = some pt_r159 := rfl
  unfold fM_runScript_j56 at hx
  refine ev_ls (L' := [some (.ref 247), u1]) (st' := [.ref 247]) (pc' := 57) hk (.aload_n 0) 1 rfl rfl rfl rfl ?_
  obtain ⟨M4, hc5, hx⟩ := bnd_some hx
  refine ev_cv 34 0 [] 60 hk rfl rfl rfl rfl lk_model rfl rfl rfl (rM_closes hc5) rfl rfl rfl rfl ?_
  refine ev_jp (pc' := 19) (st' := []) hk (.goto (-41)) 3 rfl rfl rfl rfl rfl ?_
  cases hx
  exact hM u1 hu1
set_option maxRecDepth 4000 in
theorem rM_runScript_j82 {S : Nat} {xs : Nat → Int32} {I : zI} {C : zC} {Y : Nat → Int32} {Γ : Nat → zG} {D : zD} {O : Nat → Int32} {M : zM} {ou : Nat → Int64} {od : Nat → UInt64} {j : Nat}  {y : (Option Value ⊕ String) × px_H} {x : Int32 × zM}  (hx : fM_runScript_j82 M = some x) (hM : (fun X : Int32 × zM => y = (((.inl (some (.int X.1))), (zH I C Y Γ D O X.2 ou od j)) : (Option Value ⊕ String) × px_H)) x) (u1 : Option Value) (hu1 : px_cz u1 = true) : Ev S xs 159 82 [some (.ref 247), u1] [] (zH I C Y Γ D O M ou od j) y := by
  have hk : pt_mt[159]? = some pt_r159 := rfl
  unfold fM_runScript_j82 at hx
  refine ev_ls (L' := [some (.ref 247), u1]) (st' := [.ref 247]) (pc' := 83) hk (.aload_n 0) 1 rfl rfl rfl rfl ?_
  obtain ⟨v9, M8, hc10, hx⟩ := bnd2_some hx
  refine ev_cv 50 0 [.int (b2i v9)] 86 hk rfl rfl rfl rfl lk_model rfl rfl rfl (rM_endsText hc10) rfl rfl rfl rfl ?_
  refine ev_d1 91 89 hk rfl rfl rfl rfl (px_bne hx (fun hc hx => ?_) (fun hc hx => ?_))
  · refine ev_ls (L' := [some (.ref 247), u1]) (st' := [.ref 247]) (pc' := 92) hk (.aload_n 0) 1 rfl rfl rfl rfl ?_
    obtain ⟨M11, hc12, hx⟩ := bnd_some hx
    refine ev_cv 117 0 [] 95 hk rfl rfl rfl rfl lk_model rfl rfl rfl (rM_laysAside hc12) rfl rfl rfl rfl ?_
    refine ev_ls (L' := [some (.ref 247), u1]) (st' := [.ref 247]) (pc' := 96) hk (.aload_n 0) 1 rfl rfl rfl rfl ?_
    obtain ⟨v14, M13, hc15, hx⟩ := bnd2_some hx
    refine ev_cv 48 0 [.int v14] 99 hk rfl rfl rfl rfl lk_model rfl rfl rfl (rM_doesAll hc15) rfl rfl rfl rfl ?_
    refine ev_ls (L' := [some (.ref 247), some (.int v14)]) (st' := []) (pc' := 100) hk (.istore_n 1) 1 rfl rfl rfl rfl ?_
    refine ev_ls (L' := [some (.ref 247), some (.int v14)]) (st' := [.ref 247]) (pc' := 101) hk (.aload_n 0) 1 rfl rfl rfl rfl ?_
    obtain ⟨M16, hc17, hx⟩ := bnd_some hx
    refine ev_cv 104 0 [] 104 hk rfl rfl rfl rfl lk_model rfl rfl rfl (rM_keeps hc17) rfl rfl rfl rfl ?_
    refine ev_ls (L' := [some (.ref 247), some (.int v14)]) (st' := [.int v14]) (pc' := 105) hk (.iload_n 1) 1 rfl rfl rfl rfl ?_
    cases hx
    obtain rfl := hM
    exact ev_retI hk rfl rfl
  · refine ev_op (st' := [.int 0]) (pc' := 90) hk (.iconst 0) 1 rfl rfl rfl ?_
    cases hx
    obtain rfl := hM
    exact ev_retI hk rfl rfl
set_option maxRecDepth 4000 in
theorem rM_runScript_j63 {S : Nat} {xs : Nat → Int32} {I : zI} {C : zC} {Y : Nat → Int32} {Γ : Nat → zG} {D : zD} {O : Nat → Int32} {M : zM} {ou : Nat → Int64} {od : Nat → UInt64} {j : Nat}  {y : (Option Value ⊕ String) × px_H} {x : Int32 × zM}  (hx : fM_runScript_j63 M = some x) (hM : (fun X : Int32 × zM => y = (((.inl (some (.int X.1))), (zH I C Y Γ D O X.2 ou od j)) : (Option Value ⊕ String) × px_H)) x) (u1 : Option Value) (hu1 : px_cz u1 = true) : Ev S xs 159 63 [some (.ref 247), u1] [] (zH I C Y Γ D O M ou od j) y := by
  have hk : pt_mt[159]? = some pt_r159 := rfl
  unfold fM_runScript_j63 at hx
  refine ev_ls (L' := [some (.ref 247), u1]) (st' := [.ref 247]) (pc' := 64) hk (.aload_n 0) 1 rfl rfl rfl rfl ?_
  refine ev_cv 84 0 [.int (b2i (fM_isGood M))] 67 hk rfl rfl rfl rfl lk_model rfl rfl rfl (rM_isGood rfl) rfl rfl rfl rfl ?_
  refine ev_d1 82 70 hk rfl rfl rfl rfl (px_beq hx (fun hc hx => ?_) (fun hc hx => ?_))
  · exact rM_runScript_j82 hx hM u1 hu1
  · refine ev_ls (L' := [some (.ref 247), u1]) (st' := [.ref 247]) (pc' := 71) hk (.aload_n 0) 1 rfl rfl rfl rfl ?_
    refine ev_gf (.int (mF M 28)) 74 hk rfl rfl lk_model rfl rfl ?_
    refine ev_d1 82 77 hk rfl rfl rfl rfl (px_cle hx (fun hc hx => ?_) (fun hc hx => ?_))
    · exact rM_runScript_j82 hx hM u1 hu1
    · refine ev_ls (L' := [some (.ref 247), u1]) (st' := [.ref 247]) (pc' := 78) hk (.aload_n 0) 1 rfl rfl rfl rfl ?_
      refine ev_op (st' := [.int 1, .ref 247]) (pc' := 79) hk (.iconst 1) 1 rfl rfl rfl ?_
      obtain ⟨M6, hc7, hx⟩ := bnd_some hx
      refine ev_cv 203 1 [] 82 hk rfl rfl rfl rfl lk_model rfl rfl rfl (rM_wrong hc7) rfl rfl rfl rfl ?_
      exact rM_runScript_j82 hx hM u1 hu1
set_option maxRecDepth 4000 in
theorem rM_runScript_b19 {S : Nat} {xs : Nat → Int32} {I : zI} {C : zC} {Y : Nat → Int32} {Γ : Nat → zG} {D : zD} {O : Nat → Int32} {ou : Nat → Int64} {od : Nat → UInt64} {j : Nat}  {y : (Option Value ⊕ String) × px_H} {s : zM} {x : (zM) ⊕ (Int32 × zM)}  (hx : fM_runScript_b19 s = some x) (hM : (Sum.elim (qM_runScript_19 S xs I C Y Γ D O ou od j y) (fun X : Int32 × zM => y = (((.inl (some (.int X.1))), (zH I C Y Γ D O X.2 ou od j)) : (Option Value ⊕ String) × px_H))) x) : qM_runScript_19 S xs I C Y Γ D O ou od j y s := by
  revert hx
  generalize s = M
  intro hx
  intro u1 hu1
  have hk : pt_mt[159]? = some pt_r159 := rfl
  unfold fM_runScript_b19 at hx
  try dsimp only at hx
  refine ev_ls (L' := [some (.ref 247), u1]) (st' := [.ref 247]) (pc' := 20) hk (.aload_n 0) 1 rfl rfl rfl rfl ?_
  refine ev_cv 84 0 [.int (b2i (fM_isGood M))] 23 hk rfl rfl rfl rfl lk_model rfl rfl rfl (rM_isGood rfl) rfl rfl rfl rfl ?_
  refine ev_d1 63 26 hk rfl rfl rfl rfl (px_beq hx (fun hc hx => ?_) (fun hc hx => ?_))
  · obtain ⟨X, hx2, hX⟩ := Option.map_eq_some_iff.mp hx
    clear hx; subst hX; have hx := hx2; clear hx2
    exact rM_runScript_j63 hx hM u1 hu1
  · refine ev_ls (L' := [some (.ref 247), u1]) (st' := [.ref 247]) (pc' := 27) hk (.aload_n 0) 1 rfl rfl rfl rfl ?_
    refine ev_gf (.int (mF M 6)) 30 hk rfl rfl lk_model rfl rfl ?_
    refine ev_d1 63 33 hk rfl rfl rfl rfl (px_ceq hx (fun hc hx => ?_) (fun hc hx => ?_))
    · obtain ⟨X, hx2, hX⟩ := Option.map_eq_some_iff.mp hx
      clear hx; subst hX; have hx := hx2; clear hx2
      exact rM_runScript_j63 hx hM u1 hu1
    · refine ev_ls (L' := [some (.ref 247), u1]) (st' := [.ref 247]) (pc' := 34) hk (.aload_n 0) 1 rfl rfl rfl rfl ?_
      refine ev_gf (.int (mF M 28)) 37 hk rfl rfl lk_model rfl rfl ?_
      refine ev_ls (L' := [some (.ref 247), some (.int (mF M 28))]) (st' := []) (pc' := 38) hk (.istore_n 1) 1 rfl rfl rfl rfl ?_
      refine ev_ls (L' := [some (.ref 247), some (.int (mF M 28))]) (st' := [.ref 247]) (pc' := 39) hk (.aload_n 0) 1 rfl rfl rfl rfl ?_
      obtain ⟨M18, hc19, hx⟩ := bnd_some hx
      refine ev_cv 35 0 [] 42 hk rfl rfl rfl rfl lk_model rfl rfl rfl (rM_command hc19) rfl rfl rfl rfl ?_
      refine ev_ls (L' := [some (.ref 247), some (.int (mF M 28))]) (st' := [.ref 247]) (pc' := 43) hk (.aload_n 0) 1 rfl rfl rfl rfl ?_
      refine ev_gf (.int (mF M18 28)) 46 hk rfl rfl lk_model rfl rfl ?_
      refine ev_ls (L' := [some (.ref 247), some (.int (mF M 28))]) (st' := [.int (mF M 28), .int (mF M18 28)]) (pc' := 47) hk (.iload_n 1) 1 rfl rfl rfl rfl ?_
      refine ev_d2 56 50 hk rfl rfl rfl rfl (px_cne hx (fun hc hx => ?_) (fun hc hx => ?_))
      · exact rM_runScript_j56 hx hM (some (.int (mF M 28))) rfl
      · refine ev_ls (L' := [some (.ref 247), some (.int (mF M 28))]) (st' := [.ref 247]) (pc' := 51) hk (.aload_n 0) 1 rfl rfl rfl rfl ?_
        refine ev_op (st' := [.int 59, .ref 247]) (pc' := 53) hk (.bipush 59) 2 rfl rfl rfl ?_
        obtain ⟨M20, hc21, hx⟩ := bnd_some hx
        refine ev_cv 139 1 [] 56 hk rfl rfl rfl rfl lk_model rfl rfl rfl (rM_mustSign hc21) rfl rfl rfl rfl ?_
        exact rM_runScript_j56 hx hM (some (.int (mF M 28))) rfl
set_option maxRecDepth 2000 in
theorem rM_runScript {S : Nat} {xs : Nat → Int32} {I : zI} {C : zC} {Y : Nat → Int32} {Γ : Nat → zG} {D : zD} {O : Nat → Int32} {M : zM} {ou : Nat → Int64} {od : Nat → UInt64} {j : Nat}  {X : Int32 × zM}   (hx : fM_runScript M = some X) : Ev S xs 159 0 [some (.ref 247), none] [] (zH I C Y Γ D O M ou od j) (((.inl (some (.int X.1))), (zH I C Y Γ D O X.2 ou od j)) : (Option Value ⊕ String) × px_H) := by
  generalize hM : (((.inl (some (.int X.1))), (zH I C Y Γ D O X.2 ou od j)) : (Option Value ⊕ String) × px_H) = y
  replace hM := hM.symm
  have hk : pt_mt[159]? = some pt_r159 := rfl
  unfold fM_runScript at hx
  refine ev_ls (L' := [some (.ref 247), none]) (st' := [.ref 247]) (pc' := 1) hk (.aload_n 0) 1 rfl rfl rfl rfl ?_
  obtain ⟨M22, hc23, hx⟩ := bnd_some hx
  refine ev_cv 30 0 [] 4 hk rfl rfl rfl rfl lk_model rfl rfl rfl (rM_beginsText hc23) rfl rfl rfl rfl ?_
  refine ev_ls (L' := [some (.ref 247), none]) (st' := [.ref 247]) (pc' := 5) hk (.aload_n 0) 1 rfl rfl rfl rfl ?_
  refine ev_op (st' := [.int 0, .ref 247]) (pc' := 6) hk (.iconst 0) 1 rfl rfl rfl ?_
  obtain ⟨M24, hM24, hx⟩ := bnd_some hx
  have hM24 := Option.some.inj hM24
  refine ev_pf 9 hk rfl rfl lk_model rfl rfl rfl (sf_8_26 hM24) rfl ?_
  refine ev_ls (L' := [some (.ref 247), none]) (st' := [.ref 247]) (pc' := 10) hk (.aload_n 0) 1 rfl rfl rfl rfl ?_
  refine ev_op (st' := [.int 0, .ref 247]) (pc' := 11) hk (.iconst 0) 1 rfl rfl rfl ?_
  obtain ⟨M25, hM25, hx⟩ := bnd_some hx
  have hM25 := Option.some.inj hM25
  refine ev_pf 14 hk rfl rfl lk_model rfl rfl rfl (sf_8_27 hM25) rfl ?_
  refine ev_ls (L' := [some (.ref 247), none]) (st' := [.ref 247]) (pc' := 15) hk (.aload_n 0) 1 rfl rfl rfl rfl ?_
  refine ev_op (st' := [.int 0, .ref 247]) (pc' := 16) hk (.iconst 0) 1 rfl rfl rfl ?_
  obtain ⟨M26, hM26, hx⟩ := bnd_some hx
  have hM26 := Option.some.inj hM26
  refine ev_pf 19 hk rfl rfl lk_model rfl rfl rfl (sf_8_28 hM26) rfl ?_
  exact ev_iter (qM_runScript_19 S xs I C Y Γ D O ou od j _) (fun X : Int32 × zM => y = (((.inl (some (.int X.1))), (zH I C Y Γ D O X.2 ou od j)) : (Option Value ⊕ String) × px_H)) (fun s x hb hM => rM_runScript_b19 hb hM) fu _ _ hx hM none rfl
def qG_clear_10 (S : Nat) (xs : Nat → Int32) (I : zI) (C : zC) (Y : Nat → Int32) (Γ : Nat → zG) (D : zD) (O : Nat → Int32) (M : zM) (ou : Nat → Int64) (od : Nat → UInt64) (j : Nat) (g : Nat) (y : (Option Value ⊕ String) × px_H) (s : zG × Int32) : Prop := Ev S xs 216 10 [some (.ref g), some (.int s.2)] [] (zH I C Y (gup Γ g s.1) D O M ou od j) y
set_option maxRecDepth 4000 in
theorem rG_clear_b10 {S : Nat} {xs : Nat → Int32} {I : zI} {C : zC} {Y : Nat → Int32} {Γ : Nat → zG} {D : zD} {O : Nat → Int32} {M : zM} {ou : Nat → Int64} {od : Nat → UInt64} {j : Nat} {g : Nat}  {y : (Option Value ⊕ String) × px_H} {s : zG × Int32} {x : (zG × Int32) ⊕ (zG)} (hg : isG g) (hx : fG_clear_b10 s.1 s.2 = some x) (hM : (Sum.elim (qG_clear_10 S xs I C Y Γ D O M ou od j g y) (fun X : zG => y = (((.inl none), (zH I C Y (gup Γ g X) D O M ou od j)) : (Option Value ⊕ String) × px_H))) x) : qG_clear_10 S xs I C Y Γ D O M ou od j g y s := by
  obtain ⟨G, a1⟩ := s
  have hk : pt_mt[216]? = some pt_r216 := rfl
  unfold fG_clear_b10 at hx
  try dsimp only at hx
  refine ev_ls (L' := [some (.ref g), some (.int a1)]) (st' := [.int a1]) (pc' := 11) hk (.iload_n 1) 1 rfl rfl rfl rfl ?_
  refine ev_op (st' := [.int 9, .int a1]) (pc' := 13) hk (.bipush 9) 2 rfl rfl rfl ?_
  refine ev_d2 31 16 hk rfl rfl rfl rfl (px_cge hx (fun hc hx => ?_) (fun hc hx => ?_))
  · refine ev_ls (L' := [some (.ref g), some (.int a1)]) (st' := [.ref g]) (pc' := 32) hk (.aload_n 0) 1 rfl rfl rfl rfl ?_
    refine ev_op (st' := [.int 0, .ref g]) (pc' := 33) hk (.iconst 0) 1 rfl rfl rfl ?_
    obtain ⟨G13, hG13, hx⟩ := bnd_some hx
    have hG13 := Option.some.inj hG13
    refine ev_pf 36 hk rfl rfl (lk_globe hg gup_same) rfl rfl rfl (sf_1_2 hg  gup_same hG13 gup_gup) rfl ?_
    refine ev_ls (L' := [some (.ref g), some (.int a1)]) (st' := [.ref g]) (pc' := 37) hk (.aload_n 0) 1 rfl rfl rfl rfl ?_
    refine ev_op (st' := [.int 500, .ref g]) (pc' := 40) hk (.sipush 500) 3 rfl rfl rfl ?_
    obtain ⟨G14, hG14, hx⟩ := bnd_some hx
    have hG14 := Option.some.inj hG14
    refine ev_pf 43 hk rfl rfl (lk_globe hg gup_same) rfl rfl rfl (sf_1_3 hg  gup_same hG14 gup_gup) rfl ?_
    refine ev_ls (L' := [some (.ref g), some (.int a1)]) (st' := [.ref g]) (pc' := 44) hk (.aload_n 0) 1 rfl rfl rfl rfl ?_
    refine ev_op (st' := [.int 0, .ref g]) (pc' := 45) hk (.iconst 0) 1 rfl rfl rfl ?_
    obtain ⟨G15, hG15, hx⟩ := bnd_some hx
    have hG15 := Option.some.inj hG15
    refine ev_pf 48 hk rfl rfl (lk_globe hg gup_same) rfl rfl rfl (sf_1_4 hg  gup_same hG15 gup_gup) rfl ?_
    refine ev_ls (L' := [some (.ref g), some (.int a1)]) (st' := [.ref g]) (pc' := 49) hk (.aload_n 0) 1 rfl rfl rfl rfl ?_
    refine ev_op (st' := [.int 0, .ref g]) (pc' := 50) hk (.iconst 0) 1 rfl rfl rfl ?_
    obtain ⟨G16, hG16, hx⟩ := bnd_some hx
    have hG16 := Option.some.inj hG16
    refine ev_pf 53 hk rfl rfl (lk_globe hg gup_same) rfl rfl rfl (sf_1_6 hg  gup_same hG16 gup_gup) rfl ?_
    cases hx
    obtain rfl := hM
    exact ev_retv hk rfl rfl
  · refine ev_ls (L' := [some (.ref g), some (.int a1)]) (st' := [.ref g]) (pc' := 17) hk (.aload_n 0) 1 rfl rfl rfl rfl ?_
    refine ev_gf (.ref (g + 5)) 20 hk rfl rfl (lk_globe hg gup_same) rfl rfl ?_
    refine ev_ls (L' := [some (.ref g), some (.int a1)]) (st' := [.int a1, .ref (g + 5)]) (pc' := 21) hk (.iload_n 1) 1 rfl rfl rfl rfl ?_
    refine ev_op (st' := [.int 180, .int a1, .ref (g + 5)]) (pc' := 24) hk (.sipush 180) 3 rfl rfl rfl ?_
    obtain ⟨A17, hA17, hx⟩ := bnd_some hx
    obtain ⟨G18, hG18, hx⟩ := bnd_some hx
    have hG18 := Option.some.inj hG18
    refine ev_ias hA17 25 hk rfl (lk_a5 hg gup_same) (sa_g5 hg gup_same hG18 gup_gup) rfl ?_
    refine ev_ls (L' := [some (.ref g), some (.int (a1 + 1))]) (st' := []) (pc' := 28) hk (.iinc 1 1) 3 rfl rfl rfl rfl ?_
    refine ev_jp (pc' := 10) (st' := []) hk (.goto (-18)) 3 rfl rfl rfl rfl rfl ?_
    cases hx
    exact hM
set_option maxRecDepth 2000 in
theorem rG_clear {S : Nat} {xs : Nat → Int32} {I : zI} {C : zC} {Y : Nat → Int32} {Γ : Nat → zG} {D : zD} {O : Nat → Int32} {M : zM} {ou : Nat → Int64} {od : Nat → UInt64} {j : Nat} {g : Nat} {G : zG}  {X : zG}  (hg : isG g) (hx : fG_clear G = some X) : Ev S xs 216 0 [some (.ref g), none] [] (zH I C Y (gup Γ g G) D O M ou od j) (((.inl none), (zH I C Y (gup Γ g X) D O M ou od j)) : (Option Value ⊕ String) × px_H) := by
  generalize hM : (((.inl none), (zH I C Y (gup Γ g X) D O M ou od j)) : (Option Value ⊕ String) × px_H) = y
  replace hM := hM.symm
  have hk : pt_mt[216]? = some pt_r216 := rfl
  unfold fG_clear at hx
  refine ev_ls (L' := [some (.ref g), none]) (st' := [.ref g]) (pc' := 1) hk (.aload_n 0) 1 rfl rfl rfl rfl ?_
  refine ev_gf (.ref (g + 1)) 4 hk rfl rfl (lk_globe hg gup_same) rfl rfl ?_
  refine ev_op (st' := [.int 0, .ref (g + 1)]) (pc' := 5) hk (.iconst 0) 1 rfl rfl rfl ?_
  obtain ⟨G19, hG19, hx⟩ := bnd_some hx
  have hG19 := Option.some.inj hG19
  refine ev_pf 8 hk rfl rfl (lk_cloth hg gup_same) rfl rfl rfl (sf_0_0 hg  gup_same hG19 gup_gup) rfl ?_
  refine ev_op (st' := [.int 0]) (pc' := 9) hk (.iconst 0) 1 rfl rfl rfl ?_
  refine ev_ls (L' := [some (.ref g), some (.int 0)]) (st' := []) (pc' := 10) hk (.istore_n 1) 1 rfl rfl rfl rfl ?_
  exact ev_iter (qG_clear_10 S xs I C Y Γ D O M ou od j g _) (fun X : zG => y = (((.inl none), (zH I C Y (gup Γ g X) D O M ou od j)) : (Option Value ⊕ String) × px_H)) (fun s x hb hM => rG_clear_b10 hg hb hM) fu _ _ hx hM 
set_option maxRecDepth 2000 in
theorem rI_expectWord {S : Nat} {xs : Nat → Int32} {I : zI} {C : zC} {Y : Nat → Int32} {Γ : Nat → zG} {D : zD} {O : Nat → Int32} {M : zM} {ou : Nat → Int64} {od : Nat → UInt64} {j : Nat}  {X : Int64 × zI}   (hx : fI_expectWord I = some X) : Ev S xs 265 0 [some (.ref 1)] [] (zH I C Y Γ D O M ou od j) (((.inl (some (.long X.1))), (zH X.2 C Y Γ D O M ou od j)) : (Option Value ⊕ String) × px_H) := by
  generalize hM : (((.inl (some (.long X.1))), (zH X.2 C Y Γ D O M ou od j)) : (Option Value ⊕ String) × px_H) = y
  replace hM := hM.symm
  have hk : pt_mt[265]? = some pt_r265 := rfl
  unfold fI_expectWord at hx
  refine ev_ls (L' := [some (.ref 1)]) (st' := [.ref 1]) (pc' := 1) hk (.aload_n 0) 1 rfl rfl rfl rfl ?_
  obtain ⟨I1, hc2, hx⟩ := bnd_some hx
  refine ev_cv 273 0 [] 4 hk rfl rfl rfl rfl lk_input rfl rfl rfl (rI_next hc2) rfl rfl rfl rfl ?_
  refine ev_ls (L' := [some (.ref 1)]) (st' := [.ref 1]) (pc' := 5) hk (.aload_n 0) 1 rfl rfl rfl rfl ?_
  refine ev_gf (.int (iF I1 4)) 8 hk rfl rfl lk_input rfl rfl ?_
  refine ev_op (st' := [.int 1, .int (iF I1 4)]) (pc' := 9) hk (.iconst 1) 1 rfl rfl rfl ?_
  refine ev_d2 20 12 hk rfl rfl rfl rfl (px_ceq hx (fun hc hx => ?_) (fun hc hx => ?_))
  · refine ev_ls (L' := [some (.ref 1)]) (st' := [.ref 1]) (pc' := 21) hk (.aload_n 0) 1 rfl rfl rfl rfl ?_
    refine ev_gf (.long (iN I1)) 24 hk rfl rfl lk_input rfl rfl ?_
    cases hx
    obtain rfl := hM
    exact ev_retL hk rfl rfl
  · refine ev_ls (L' := [some (.ref 1)]) (st' := [.ref 1]) (pc' := 13) hk (.aload_n 0) 1 rfl rfl rfl rfl ?_
    refine ev_op (st' := [.int 1, .ref 1]) (pc' := 14) hk (.iconst 1) 1 rfl rfl rfl ?_
    obtain ⟨v4, I3, hc5, hx⟩ := bnd2_some hx
    refine ev_cv 266 1 [.int (b2i v4)] 17 hk rfl rfl rfl rfl lk_input rfl rfl rfl (rI_fail hc5) rfl rfl rfl rfl ?_
    refine ev_op (st' := []) (pc' := 18) hk (.pop) 1 rfl rfl rfl ?_
    refine ev_op (st' := [.long 0]) (pc' := 19) hk (.lconst 0) 1 rfl rfl rfl ?_
    cases hx
    obtain rfl := hM
    exact ev_retL hk rfl rfl
set_option maxRecDepth 4000 in
theorem rC_addGore_j52 {S : Nat} {xs : Nat → Int32} {I : zI} {C : zC} {Y : Nat → Int32} {Γ : Nat → zG} {D : zD} {O : Nat → Int32} {M : zM} {ou : Nat → Int64} {od : Nat → UInt64} {j : Nat} {g : Nat} {G : zG} {a1 : Int32} {a0t : Int32} {a1t : Int32} {y : (Option Value ⊕ String) × px_H} {x : zG} (hg : isG g) (hx : fC_addGore_j52 G a1 a0t a1t = some x) (hM : (fun X : zG => y = (((.inl none), (zH I C Y (gup Γ g X) D O M ou od j)) : (Option Value ⊕ String) × px_H)) x)  : Ev S xs 5 52 [some (.ref (g + 1)), some (.int a1)] [.int a0t, .int a1t, .ref (g + 3)] (zH I C Y (gup Γ g G) D O M ou od j) y := by
  have hk : pt_mt[5]? = some pt_r5 := rfl
  unfold fC_addGore_j52 at hx
  obtain ⟨A17, hA17, hx⟩ := bnd_some hx
  obtain ⟨G18, hG18, hx⟩ := bnd_some hx
  have hG18 := Option.some.inj hG18
  refine ev_ias hA17 53 hk rfl (lk_a3 hg gup_same) (sa_g3 hg gup_same hG18 gup_gup) rfl ?_
  refine ev_ls (L' := [some (.ref (g + 1)), some (.int a1)]) (st' := [.ref (g + 1)]) (pc' := 54) hk (.aload_n 0) 1 rfl rfl rfl rfl ?_
  refine ev_gf (.ref (g + 2)) 57 hk rfl rfl (lk_cloth hg gup_same) rfl rfl ?_
  refine ev_ls (L' := [some (.ref (g + 1)), some (.int a1)]) (st' := [.ref (g + 1), .ref (g + 2)]) (pc' := 58) hk (.aload_n 0) 1 rfl rfl rfl rfl ?_
  refine ev_gf (.int (gF G18 1 0)) 61 hk rfl rfl (lk_cloth hg gup_same) rfl rfl ?_
  refine ev_ls (L' := [some (.ref (g + 1)), some (.int a1)]) (st' := [.int a1, .int (gF G18 1 0), .ref (g + 2)]) (pc' := 62) hk (.iload_n 1) 1 rfl rfl rfl rfl ?_
  obtain ⟨A19, hA19, hx⟩ := bnd_some hx
  obtain ⟨G20, hG20, hx⟩ := bnd_some hx
  have hG20 := Option.some.inj hG20
  refine ev_ias hA19 63 hk rfl (lk_a2 hg gup_same) (sa_g2 hg gup_same hG20 gup_gup) rfl ?_
  refine ev_ls (L' := [some (.ref (g + 1)), some (.int a1)]) (st' := [.ref (g + 1)]) (pc' := 64) hk (.aload_n 0) 1 rfl rfl rfl rfl ?_
  refine ev_gf (.ref (g + 4)) 67 hk rfl rfl (lk_cloth hg gup_same) rfl rfl ?_
  refine ev_ls (L' := [some (.ref (g + 1)), some (.int a1)]) (st' := [.ref (g + 1), .ref (g + 4)]) (pc' := 68) hk (.aload_n 0) 1 rfl rfl rfl rfl ?_
  refine ev_gf (.int (gF G20 1 0)) 71 hk rfl rfl (lk_cloth hg gup_same) rfl rfl ?_
  refine ev_op (st' := [.int 20, .int (gF G20 1 0), .ref (g + 4)]) (pc' := 73) hk (.bipush 20) 2 rfl rfl rfl ?_
  obtain ⟨A21, hA21, hx⟩ := bnd_some hx
  obtain ⟨G22, hG22, hx⟩ := bnd_some hx
  have hG22 := Option.some.inj hG22
  refine ev_ias hA21 74 hk rfl (lk_a4 hg gup_same) (sa_g4 hg gup_same hG22 gup_gup) rfl ?_
  refine ev_ls (L' := [some (.ref (g + 1)), some (.int a1)]) (st' := [.ref (g + 1)]) (pc' := 75) hk (.aload_n 0) 1 rfl rfl rfl rfl ?_
  refine ev_op (st' := [.ref (g + 1), .ref (g + 1)]) (pc' := 76) hk (.dup) 1 rfl rfl rfl ?_
  refine ev_gf (.int (gF G22 1 0)) 79 hk rfl rfl (lk_cloth hg gup_same) rfl rfl ?_
  refine ev_op (st' := [.int 1, .int (gF G22 1 0), .ref (g + 1)]) (pc' := 80) hk (.iconst 1) 1 rfl rfl rfl ?_
  refine ev_op (st' := [.int ((gF G22 1 0) + 1), .ref (g + 1)]) (pc' := 81) hk (.iadd) 1 rfl rfl rfl ?_
  obtain ⟨G23, hG23, hx⟩ := bnd_some hx
  have hG23 := Option.some.inj hG23
  refine ev_pf 84 hk rfl rfl (lk_cloth hg gup_same) rfl rfl rfl (sf_0_0 hg  gup_same hG23 gup_gup) rfl ?_
  cases hx
  obtain rfl := hM
  exact ev_retv hk rfl rfl
set_option maxRecDepth 2000 in
theorem rC_addGore {S : Nat} {xs : Nat → Int32} {I : zI} {C : zC} {Y : Nat → Int32} {Γ : Nat → zG} {D : zD} {O : Nat → Int32} {M : zM} {ou : Nat → Int64} {od : Nat → UInt64} {j : Nat} {g : Nat} {G : zG} {a1 : Int32} {X : zG}  (hg : isG g) (hx : fC_addGore G a1 = some X) : Ev S xs 5 0 [some (.ref (g + 1)), some (.int a1)] [] (zH I C Y (gup Γ g G) D O M ou od j) (((.inl none), (zH I C Y (gup Γ g X) D O M ou od j)) : (Option Value ⊕ String) × px_H) := by
  generalize hM : (((.inl none), (zH I C Y (gup Γ g X) D O M ou od j)) : (Option Value ⊕ String) × px_H) = y
  replace hM := hM.symm
  have hk : pt_mt[5]? = some pt_r5 := rfl
  unfold fC_addGore at hx
  refine ev_ls (L' := [some (.ref (g + 1)), some (.int a1)]) (st' := [.ref (g + 1)]) (pc' := 1) hk (.aload_n 0) 1 rfl rfl rfl rfl ?_
  refine ev_gf (.int (gF G 1 0)) 4 hk rfl rfl (lk_cloth hg gup_same) rfl rfl ?_
  refine ev_op (st' := [.int 12, .int (gF G 1 0)]) (pc' := 6) hk (.bipush 12) 2 rfl rfl rfl ?_
  refine ev_d2 10 9 hk rfl rfl rfl rfl (px_clt hx (fun hc hx => ?_) (fun hc hx => ?_))
  · refine ev_ls (L' := [some (.ref (g + 1)), some (.int a1)]) (st' := [.ref (g + 1)]) (pc' := 11) hk (.aload_n 0) 1 rfl rfl rfl rfl ?_
    refine ev_gf (.ref (g + 3)) 14 hk rfl rfl (lk_cloth hg gup_same) rfl rfl ?_
    refine ev_ls (L' := [some (.ref (g + 1)), some (.int a1)]) (st' := [.ref (g + 1), .ref (g + 3)]) (pc' := 15) hk (.aload_n 0) 1 rfl rfl rfl rfl ?_
    refine ev_gf (.int (gF G 1 0)) 18 hk rfl rfl (lk_cloth hg gup_same) rfl rfl ?_
    refine ev_ls (L' := [some (.ref (g + 1)), some (.int a1)]) (st' := [.ref (g + 1), .int (gF G 1 0), .ref (g + 3)]) (pc' := 19) hk (.aload_n 0) 1 rfl rfl rfl rfl ?_
    refine ev_gf (.int (gF G 1 0)) 22 hk rfl rfl (lk_cloth hg gup_same) rfl rfl ?_
    refine ev_d1 29 25 hk rfl rfl rfl rfl (px_cne hx (fun hc hx => ?_) (fun hc hx => ?_))
    · refine ev_ls (L' := [some (.ref (g + 1)), some (.int a1)]) (st' := [.ref (g + 1), .int (gF G 1 0), .ref (g + 3)]) (pc' := 30) hk (.aload_n 0) 1 rfl rfl rfl rfl ?_
      refine ev_gf (.ref (g + 3)) 33 hk rfl rfl (lk_cloth hg gup_same) rfl rfl ?_
      refine ev_ls (L' := [some (.ref (g + 1)), some (.int a1)]) (st' := [.ref (g + 1), .ref (g + 3), .int (gF G 1 0), .ref (g + 3)]) (pc' := 34) hk (.aload_n 0) 1 rfl rfl rfl rfl ?_
      refine ev_gf (.int (gF G 1 0)) 37 hk rfl rfl (lk_cloth hg gup_same) rfl rfl ?_
      refine ev_op (st' := [.int 1, .int (gF G 1 0), .ref (g + 3), .int (gF G 1 0), .ref (g + 3)]) (pc' := 38) hk (.iconst 1) 1 rfl rfl rfl ?_
      refine ev_op (st' := [.int ((gF G 1 0) - 1), .ref (g + 3), .int (gF G 1 0), .ref (g + 3)]) (pc' := 39) hk (.isub) 1 rfl rfl rfl ?_
      obtain ⟨v24, hv24, hx⟩ := bnd_some hx
      refine ev_ial hv24 40 hk rfl (lk_a3 hg gup_same) rfl ?_
      refine ev_ls (L' := [some (.ref (g + 1)), some (.int a1)]) (st' := [.ref (g + 1), .int v24, .int (gF G 1 0), .ref (g + 3)]) (pc' := 41) hk (.aload_n 0) 1 rfl rfl rfl rfl ?_
      refine ev_gf (.ref (g + 2)) 44 hk rfl rfl (lk_cloth hg gup_same) rfl rfl ?_
      refine ev_ls (L' := [some (.ref (g + 1)), some (.int a1)]) (st' := [.ref (g + 1), .ref (g + 2), .int v24, .int (gF G 1 0), .ref (g + 3)]) (pc' := 45) hk (.aload_n 0) 1 rfl rfl rfl rfl ?_
      refine ev_gf (.int (gF G 1 0)) 48 hk rfl rfl (lk_cloth hg gup_same) rfl rfl ?_
      refine ev_op (st' := [.int 1, .int (gF G 1 0), .ref (g + 2), .int v24, .int (gF G 1 0), .ref (g + 3)]) (pc' := 49) hk (.iconst 1) 1 rfl rfl rfl ?_
      refine ev_op (st' := [.int ((gF G 1 0) - 1), .ref (g + 2), .int v24, .int (gF G 1 0), .ref (g + 3)]) (pc' := 50) hk (.isub) 1 rfl rfl rfl ?_
      obtain ⟨v25, hv25, hx⟩ := bnd_some hx
      refine ev_ial hv25 51 hk rfl (lk_a2 hg gup_same) rfl ?_
      refine ev_op (st' := [.int (v24 + v25), .int (gF G 1 0), .ref (g + 3)]) (pc' := 52) hk (.iadd) 1 rfl rfl rfl ?_
      exact rC_addGore_j52 hg hx hM 
    · refine ev_op (st' := [.int 0, .int (gF G 1 0), .ref (g + 3)]) (pc' := 26) hk (.iconst 0) 1 rfl rfl rfl ?_
      refine ev_jp (pc' := 52) (st' := [.int 0, .int (gF G 1 0), .ref (g + 3)]) hk (.goto 26) 3 rfl rfl rfl rfl rfl ?_
      exact rC_addGore_j52 hg hx hM 
  · cases hx
    obtain rfl := hM
    exact ev_retv hk rfl rfl
def qD_readWidths_21 (S : Nat) (xs : Nat → Int32) (C : zC) (Y : Nat → Int32) (Γ : Nat → zG) (D : zD) (O : Nat → Int32) (M : zM) (ou : Nat → Int64) (od : Nat → UInt64) (j : Nat) (g : Nat) (y : (Option Value ⊕ String) × px_H) (s : zI × zG × Int32 × Int32) : Prop := Ev S xs 213 21 [some (.ref 1), some (.ref (g + 1)), some (.int s.2.2.1), some (.int s.2.2.2)] [] (zH s.1 C Y (gup Γ g s.2.1) D O M ou od j) y
set_option maxRecDepth 4000 in
theorem rD_readWidths_j112 {S : Nat} {xs : Nat → Int32} {I : zI} {C : zC} {Y : Nat → Int32} {Γ : Nat → zG} {D : zD} {O : Nat → Int32} {M : zM} {ou : Nat → Int64} {od : Nat → UInt64} {j : Nat} {g : Nat} {G : zG}  {y : (Option Value ⊕ String) × px_H} {x : Bool × zI × zG} (hg : isG g) (hx : fD_readWidths_j112 I G = some x) (hM : (fun X : Bool × zI × zG => y = (((.inl (some (.int (b2i X.1)))), (zH X.2.1 C Y (gup Γ g X.2.2) D O M ou od j)) : (Option Value ⊕ String) × px_H)) x) (u1 : Option Value) (hu1 : px_cz u1 = true) (u2 : Option Value) (hu2 : px_cz u2 = true) (u3 : Option Value) (hu3 : px_cz u3 = true) : Ev S xs 213 112 [some (.ref 1), u1, u2, u3] [] (zH I C Y (gup Γ g G) D O M ou od j) y := by
  have hk : pt_mt[213]? = some pt_r213 := rfl
  unfold fD_readWidths_j112 at hx
  refine ev_ls (L' := [some (.ref 1), u1, u2, u3]) (st' := [.ref 1]) (pc' := 113) hk (.aload_n 0) 1 rfl rfl rfl rfl ?_
  refine ev_op (st' := [.int 2, .ref 1]) (pc' := 114) hk (.iconst 2) 1 rfl rfl rfl ?_
  obtain ⟨v7, I6, hc8, hx⟩ := bnd2_some hx
  refine ev_cv 266 1 [.int (b2i v7)] 117 hk rfl rfl rfl rfl lk_input rfl rfl rfl (rI_fail hc8) rfl rfl rfl rfl ?_
  cases hx
  obtain rfl := hM
  exact ev_retZ _ rfl hk rfl rfl
set_option maxRecDepth 4000 in
theorem rD_readWidths_j65 {S : Nat} {xs : Nat → Int32} {I : zI} {C : zC} {Y : Nat → Int32} {Γ : Nat → zG} {D : zD} {O : Nat → Int32} {M : zM} {ou : Nat → Int64} {od : Nat → UInt64} {j : Nat} {g : Nat} {G : zG} {a2 : Int32} {a3 : Int32} {y : (Option Value ⊕ String) × px_H} {x : (zI × zG × Int32 × Int32) ⊕ (Bool × zI × zG)} (hg : isG g) (hx : fD_readWidths_j65 I G a2 a3 = some x) (hM : (Sum.elim (qD_readWidths_21 S xs C Y Γ D O M ou od j g y) (fun X : Bool × zI × zG => y = (((.inl (some (.int (b2i X.1)))), (zH X.2.1 C Y (gup Γ g X.2.2) D O M ou od j)) : (Option Value ⊕ String) × px_H))) x)  : Ev S xs 213 65 [some (.ref 1), some (.ref (g + 1)), some (.int a2), some (.int a3)] [] (zH I C Y (gup Γ g G) D O M ou od j) y := by
  have hk : pt_mt[213]? = some pt_r213 := rfl
  unfold fD_readWidths_j65 at hx
  refine ev_ls (L' := [some (.ref 1), some (.ref (g + 1)), some (.int a2), some (.int a3)]) (st' := [.ref 1]) (pc' := 66) hk (.aload_n 0) 1 rfl rfl rfl rfl ?_
  refine ev_gf (.int (iF I 4)) 69 hk rfl rfl lk_input rfl rfl ?_
  refine ev_op (st' := [.int 2, .int (iF I 4)]) (pc' := 70) hk (.iconst 2) 1 rfl rfl rfl ?_
  refine ev_d2 79 73 hk rfl rfl rfl rfl (px_ceq hx (fun hc hx => ?_) (fun hc hx => ?_))
  · refine ev_ls (L' := [some (.ref 1), some (.ref (g + 1)), some (.int a2), some (.int a3)]) (st' := [.int a2]) (pc' := 80) hk (.iload_n 2) 1 rfl rfl rfl rfl ?_
    refine ev_ls (L' := [some (.ref 1), some (.ref (g + 1)), some (.int a2), some (.int a3)]) (st' := [.ref 1, .int a2]) (pc' := 81) hk (.aload_n 0) 1 rfl rfl rfl rfl ?_
    refine ev_gf (.int (iF I 6)) 84 hk rfl rfl lk_input rfl rfl ?_
    refine ev_op (st' := [.int (a2 + (iF I 6))]) (pc' := 85) hk (.iadd) 1 rfl rfl rfl ?_
    refine ev_ls (L' := [some (.ref 1), some (.ref (g + 1)), some (.int (a2 + (iF I 6))), some (.int a3)]) (st' := []) (pc' := 86) hk (.istore_n 2) 1 rfl rfl rfl rfl ?_
    refine ev_ls (L' := [some (.ref 1), some (.ref (g + 1)), some (.int (a2 + (iF I 6))), some (.int a3)]) (st' := [.ref 1]) (pc' := 87) hk (.aload_n 0) 1 rfl rfl rfl rfl ?_
    refine ev_gf (.int (iF I 6)) 90 hk rfl rfl lk_input rfl rfl ?_
    refine ev_op (st' := [.int 10, .int (iF I 6)]) (pc' := 92) hk (.bipush 10) 2 rfl rfl rfl ?_
    refine ev_d2 112 95 hk rfl rfl rfl rfl (px_clt hx (fun hc hx => ?_) (fun hc hx => ?_))
    · obtain ⟨X, hx2, hX⟩ := Option.map_eq_some_iff.mp hx
      clear hx; subst hX; have hx := hx2; clear hx2
      exact rD_readWidths_j112 hg hx hM (some (.ref (g + 1))) rfl (some (.int (a2 + (iF I 6)))) rfl (some (.int a3)) rfl
    · refine ev_ls (L' := [some (.ref 1), some (.ref (g + 1)), some (.int (a2 + (iF I 6))), some (.int a3)]) (st' := [.ref 1]) (pc' := 96) hk (.aload_n 0) 1 rfl rfl rfl rfl ?_
      refine ev_gf (.int (iF I 6)) 99 hk rfl rfl lk_input rfl rfl ?_
      refine ev_op (st' := [.int 350, .int (iF I 6)]) (pc' := 102) hk (.sipush 350) 3 rfl rfl rfl ?_
      refine ev_d2 112 105 hk rfl rfl rfl rfl (px_cgt hx (fun hc hx => ?_) (fun hc hx => ?_))
      · obtain ⟨X, hx2, hX⟩ := Option.map_eq_some_iff.mp hx
        clear hx; subst hX; have hx := hx2; clear hx2
        exact rD_readWidths_j112 hg hx hM (some (.ref (g + 1))) rfl (some (.int (a2 + (iF I 6)))) rfl (some (.int a3)) rfl
      · refine ev_ls (L' := [some (.ref 1), some (.ref (g + 1)), some (.int (a2 + (iF I 6))), some (.int a3)]) (st' := [.int (a2 + (iF I 6))]) (pc' := 106) hk (.iload_n 2) 1 rfl rfl rfl rfl ?_
        refine ev_op (st' := [.int 360, .int (a2 + (iF I 6))]) (pc' := 109) hk (.sipush 360) 3 rfl rfl rfl ?_
        refine ev_d2 118 112 hk rfl rfl rfl rfl (px_cle hx (fun hc hx => ?_) (fun hc hx => ?_))
        · refine ev_ls (L' := [some (.ref 1), some (.ref (g + 1)), some (.int (a2 + (iF I 6))), some (.int a3)]) (st' := [.ref (g + 1)]) (pc' := 119) hk (.aload_n 1) 1 rfl rfl rfl rfl ?_
          refine ev_ls (L' := [some (.ref 1), some (.ref (g + 1)), some (.int (a2 + (iF I 6))), some (.int a3)]) (st' := [.ref 1, .ref (g + 1)]) (pc' := 120) hk (.aload_n 0) 1 rfl rfl rfl rfl ?_
          refine ev_gf (.int (iF I 6)) 123 hk rfl rfl lk_input rfl rfl ?_
          obtain ⟨G1, hc2, hx⟩ := bnd_some hx
          refine ev_cv 5 1 [] 126 hk rfl rfl rfl rfl (lk_cloth hg gup_same) rfl rfl rfl (rC_addGore hg hc2) rfl rfl rfl rfl ?_
          refine ev_ls (L' := [some (.ref 1), some (.ref (g + 1)), some (.int (a2 + (iF I 6))), some (.int (a3 + 1))]) (st' := []) (pc' := 129) hk (.iinc 3 1) 3 rfl rfl rfl rfl ?_
          refine ev_jp (pc' := 21) (st' := []) hk (.goto (-108)) 3 rfl rfl rfl rfl rfl ?_
          cases hx
          exact hM
        · obtain ⟨X, hx2, hX⟩ := Option.map_eq_some_iff.mp hx
          clear hx; subst hX; have hx := hx2; clear hx2
          exact rD_readWidths_j112 hg hx hM (some (.ref (g + 1))) rfl (some (.int (a2 + (iF I 6)))) rfl (some (.int a3)) rfl
  · refine ev_ls (L' := [some (.ref 1), some (.ref (g + 1)), some (.int a2), some (.int a3)]) (st' := [.ref 1]) (pc' := 74) hk (.aload_n 0) 1 rfl rfl rfl rfl ?_
    refine ev_op (st' := [.int 1, .ref 1]) (pc' := 75) hk (.iconst 1) 1 rfl rfl rfl ?_
    obtain ⟨v4, I3, hc5, hx⟩ := bnd2_some hx
    refine ev_cv 266 1 [.int (b2i v4)] 78 hk rfl rfl rfl rfl lk_input rfl rfl rfl (rI_fail hc5) rfl rfl rfl rfl ?_
    cases hx
    obtain rfl := hM
    exact ev_retZ _ rfl hk rfl rfl
set_option maxRecDepth 4000 in
theorem rD_readWidths_b21 {S : Nat} {xs : Nat → Int32} {C : zC} {Y : Nat → Int32} {Γ : Nat → zG} {D : zD} {O : Nat → Int32} {M : zM} {ou : Nat → Int64} {od : Nat → UInt64} {j : Nat} {g : Nat}  {y : (Option Value ⊕ String) × px_H} {s : zI × zG × Int32 × Int32} {x : (zI × zG × Int32 × Int32) ⊕ (Bool × zI × zG)} (hg : isG g) (hx : fD_readWidths_b21 s.1 s.2.1 s.2.2.1 s.2.2.2 = some x) (hM : (Sum.elim (qD_readWidths_21 S xs C Y Γ D O M ou od j g y) (fun X : Bool × zI × zG => y = (((.inl (some (.int (b2i X.1)))), (zH X.2.1 C Y (gup Γ g X.2.2) D O M ou od j)) : (Option Value ⊕ String) × px_H))) x) : qD_readWidths_21 S xs C Y Γ D O M ou od j g y s := by
  obtain ⟨I, G, a2, a3⟩ := s
  have hk : pt_mt[213]? = some pt_r213 := rfl
  unfold fD_readWidths_b21 at hx
  try dsimp only at hx
  refine ev_ls (L' := [some (.ref 1), some (.ref (g + 1)), some (.int a2), some (.int a3)]) (st' := [.int a3]) (pc' := 22) hk (.iload_n 3) 1 rfl rfl rfl rfl ?_
  refine ev_op (st' := [.int 12, .int a3]) (pc' := 24) hk (.bipush 12) 2 rfl rfl rfl ?_
  refine ev_d2 132 27 hk rfl rfl rfl rfl (px_cgt hx (fun hc hx => ?_) (fun hc hx => ?_))
  · refine ev_ls (L' := [some (.ref 1), some (.ref (g + 1)), some (.int a2), some (.int a3)]) (st' := [.ref 1]) (pc' := 133) hk (.aload_n 0) 1 rfl rfl rfl rfl ?_
    refine ev_op (st' := [.int 4, .ref 1]) (pc' := 134) hk (.iconst 4) 1 rfl rfl rfl ?_
    obtain ⟨v10, I9, hc11, hx⟩ := bnd2_some hx
    refine ev_cv 266 1 [.int (b2i v10)] 137 hk rfl rfl rfl rfl lk_input rfl rfl rfl (rI_fail hc11) rfl rfl rfl rfl ?_
    cases hx
    obtain rfl := hM
    exact ev_retZ _ rfl hk rfl rfl
  · refine ev_ls (L' := [some (.ref 1), some (.ref (g + 1)), some (.int a2), some (.int a3)]) (st' := [.ref 1]) (pc' := 28) hk (.aload_n 0) 1 rfl rfl rfl rfl ?_
    obtain ⟨I12, hc13, hx⟩ := bnd_some hx
    refine ev_cv 273 0 [] 31 hk rfl rfl rfl rfl lk_input rfl rfl rfl (rI_next hc13) rfl rfl rfl rfl ?_
    refine ev_ls (L' := [some (.ref 1), some (.ref (g + 1)), some (.int a2), some (.int a3)]) (st' := [.int a3]) (pc' := 32) hk (.iload_n 3) 1 rfl rfl rfl rfl ?_
    refine ev_d1 65 35 hk rfl rfl rfl rfl (px_cle hx (fun hc hx => ?_) (fun hc hx => ?_))
    · exact rD_readWidths_j65 hg hx hM 
    · refine ev_ls (L' := [some (.ref 1), some (.ref (g + 1)), some (.int a2), some (.int a3)]) (st' := [.ref 1]) (pc' := 36) hk (.aload_n 0) 1 rfl rfl rfl rfl ?_
      refine ev_op (st' := [.int 59, .ref 1]) (pc' := 38) hk (.bipush 59) 2 rfl rfl rfl ?_
      refine ev_cv 272 1 [.int (b2i (fI_isSign I12 59))] 41 hk rfl rfl rfl rfl lk_input rfl rfl rfl (rI_isSign rfl) rfl rfl rfl rfl ?_
      refine ev_d1 65 44 hk rfl rfl rfl rfl (px_beq hx (fun hc hx => ?_) (fun hc hx => ?_))
      · exact rD_readWidths_j65 hg hx hM 
      · refine ev_ls (L' := [some (.ref 1), some (.ref (g + 1)), some (.int a2), some (.int a3)]) (st' := [.int a2]) (pc' := 45) hk (.iload_n 2) 1 rfl rfl rfl rfl ?_
        refine ev_op (st' := [.int 360, .int a2]) (pc' := 48) hk (.sipush 360) 3 rfl rfl rfl ?_
        refine ev_d2 59 51 hk rfl rfl rfl rfl (px_ceq hx (fun hc hx => ?_) (fun hc hx => ?_))
        · refine ev_op (st' := [.int 1]) (pc' := 60) hk (.iconst 1) 1 rfl rfl rfl ?_
          refine ev_jp (pc' := 64) (st' := [.int 1]) hk (.goto 4) 3 rfl rfl rfl rfl rfl ?_
          cases hx
          obtain rfl := hM
          exact ev_retZ true rfl hk rfl rfl
        · refine ev_ls (L' := [some (.ref 1), some (.ref (g + 1)), some (.int a2), some (.int a3)]) (st' := [.ref 1]) (pc' := 52) hk (.aload_n 0) 1 rfl rfl rfl rfl ?_
          refine ev_op (st' := [.int 3, .ref 1]) (pc' := 53) hk (.iconst 3) 1 rfl rfl rfl ?_
          obtain ⟨v15, I14, hc16, hx⟩ := bnd2_some hx
          refine ev_cv 266 1 [.int (b2i v15)] 56 hk rfl rfl rfl rfl lk_input rfl rfl rfl (rI_fail hc16) rfl rfl rfl rfl ?_
          refine ev_d1 63 59 hk rfl rfl rfl rfl (px_beq hx (fun hc hx => ?_) (fun hc hx => ?_))
          · refine ev_op (st' := [.int 0]) (pc' := 64) hk (.iconst 0) 1 rfl rfl rfl ?_
            cases hx
            obtain rfl := hM
            exact ev_retZ false rfl hk rfl rfl
          · refine ev_op (st' := [.int 1]) (pc' := 60) hk (.iconst 1) 1 rfl rfl rfl ?_
            refine ev_jp (pc' := 64) (st' := [.int 1]) hk (.goto 4) 3 rfl rfl rfl rfl rfl ?_
            cases hx
            obtain rfl := hM
            exact ev_retZ true rfl hk rfl rfl
set_option maxRecDepth 2000 in
theorem rD_readWidths {S : Nat} {xs : Nat → Int32} {I : zI} {C : zC} {Y : Nat → Int32} {Γ : Nat → zG} {D : zD} {O : Nat → Int32} {M : zM} {ou : Nat → Int64} {od : Nat → UInt64} {j : Nat} {g : Nat} {G : zG}  {X : Bool × zI × zG}  (hg : isG g) (hx : fD_readWidths I G = some X) : Ev S xs 213 0 [some (.ref 1), some (.ref (g + 1)), none, none] [] (zH I C Y (gup Γ g G) D O M ou od j) (((.inl (some (.int (b2i X.1)))), (zH X.2.1 C Y (gup Γ g X.2.2) D O M ou od j)) : (Option Value ⊕ String) × px_H) := by
  generalize hM : (((.inl (some (.int (b2i X.1)))), (zH X.2.1 C Y (gup Γ g X.2.2) D O M ou od j)) : (Option Value ⊕ String) × px_H) = y
  replace hM := hM.symm
  have hk : pt_mt[213]? = some pt_r213 := rfl
  unfold fD_readWidths at hx
  refine ev_ls (L' := [some (.ref 1), some (.ref (g + 1)), none, none]) (st' := [.ref 1]) (pc' := 1) hk (.aload_n 0) 1 rfl rfl rfl rfl ?_
  obtain ⟨v18, I17, hc19, hx⟩ := bnd2_some hx
  refine ev_cv 265 0 [.long v18] 4 hk rfl rfl rfl rfl lk_input rfl rfl rfl (rI_expectWord hc19) rfl rfl rfl rfl ?_
  refine ev_ldJ 444200870501 7 hk rfl rfl rfl ?_
  refine ev_op (st' := [.int (lg_cmp v18 444200870501)]) (pc' := 8) hk (.lcmp) 1 rfl rfl rfl ?_
  refine ev_d1 17 11 hk rfl rfl rfl rfl (px_leq hx (fun hc hx => ?_) (fun hc hx => ?_))
  · refine ev_op (st' := [.int 0]) (pc' := 18) hk (.iconst 0) 1 rfl rfl rfl ?_
    refine ev_ls (L' := [some (.ref 1), some (.ref (g + 1)), some (.int 0), none]) (st' := []) (pc' := 19) hk (.istore_n 2) 1 rfl rfl rfl rfl ?_
    refine ev_op (st' := [.int 0]) (pc' := 20) hk (.iconst 0) 1 rfl rfl rfl ?_
    refine ev_ls (L' := [some (.ref 1), some (.ref (g + 1)), some (.int 0), some (.int 0)]) (st' := []) (pc' := 21) hk (.istore_n 3) 1 rfl rfl rfl rfl ?_
    exact ev_iter (qD_readWidths_21 S xs C Y Γ D O M ou od j g _) (fun X : Bool × zI × zG => y = (((.inl (some (.int (b2i X.1)))), (zH X.2.1 C Y (gup Γ g X.2.2) D O M ou od j)) : (Option Value ⊕ String) × px_H)) (fun s x hb hM => rD_readWidths_b21 hg hb hM) fu _ _ hx hM 
  · refine ev_ls (L' := [some (.ref 1), some (.ref (g + 1)), none, none]) (st' := [.ref 1]) (pc' := 12) hk (.aload_n 0) 1 rfl rfl rfl rfl ?_
    refine ev_op (st' := [.int 1, .ref 1]) (pc' := 13) hk (.iconst 1) 1 rfl rfl rfl ?_
    obtain ⟨v21, I20, hc22, hx⟩ := bnd2_some hx
    refine ev_cv 266 1 [.int (b2i v21)] 16 hk rfl rfl rfl rfl lk_input rfl rfl rfl (rI_fail hc22) rfl rfl rfl rfl ?_
    cases hx
    obtain rfl := hM
    exact ev_retZ _ rfl hk rfl rfl
set_option maxRecDepth 4000 in
theorem rD_readSpot {S : Nat} {xs : Nat → Int32} {I : zI} {C : zC} {Y : Nat → Int32} {Γ : Nat → zG} {D : zD} {O : Nat → Int32} {M : zM} {ou : Nat → Int64} {od : Nat → UInt64} {j : Nat} {g : Nat} {G : zG} {a2 : Bool} {X : Bool × zI × zG}  (hg : isG g) (hx : fD_readSpot I G a2 = some X) : Ev S xs 209 0 [some (.ref 1), some (.ref g), some (.int (b2i a2)), none, none, none, none] [] (zH I C Y (gup Γ g G) D O M ou od j) (((.inl (some (.int (b2i X.1)))), (zH X.2.1 C Y (gup Γ g X.2.2) D O M ou od j)) : (Option Value ⊕ String) × px_H) := by
  generalize hM : (((.inl (some (.int (b2i X.1)))), (zH X.2.1 C Y (gup Γ g X.2.2) D O M ou od j)) : (Option Value ⊕ String) × px_H) = y
  replace hM := hM.symm
  have hk : pt_mt[209]? = some pt_r209 := rfl
  unfold fD_readSpot at hx
  refine ev_ls (L' := [some (.ref 1), some (.ref g), some (.int (b2i a2)), none, none, none, none]) (st' := [.ref g]) (pc' := 1) hk (.aload_n 1) 1 rfl rfl rfl rfl ?_
  refine ev_cv 223 0 [.int (b2i (fG_hasRoomForSpot G))] 4 hk rfl rfl rfl rfl (lk_globe hg gup_same) rfl rfl rfl (rG_hasRoomForSpot hg rfl) rfl rfl rfl rfl ?_
  refine ev_d1 13 7 hk rfl rfl rfl rfl (px_bne hx (fun hc hx => ?_) (fun hc hx => ?_))
  · refine ev_ls (L' := [some (.ref 1), some (.ref g), some (.int (b2i a2)), none, none, none, none]) (st' := [.ref 1]) (pc' := 14) hk (.aload_n 0) 1 rfl rfl rfl rfl ?_
    obtain ⟨v2, I1, hc3, hx⟩ := bnd2_some hx
    refine ev_cv 265 0 [.long v2] 17 hk rfl rfl rfl rfl lk_input rfl rfl rfl (rI_expectWord hc3) rfl rfl rfl rfl ?_
    refine ev_ls (L' := [some (.ref 1), some (.ref g), some (.int (b2i a2)), some (.long v2), none, none, none]) (st' := []) (pc' := 18) hk (.lstore_n 3) 1 rfl rfl rfl rfl ?_
    refine ev_ls (L' := [some (.ref 1), some (.ref g), some (.int (b2i a2)), some (.long v2), none, none, none]) (st' := [.long v2]) (pc' := 19) hk (.lload_n 3) 1 rfl rfl rfl rfl ?_
    refine ev_op (st' := [.long 0, .long v2]) (pc' := 20) hk (.lconst 0) 1 rfl rfl rfl ?_
    refine ev_op (st' := [.int (lg_cmp v2 0)]) (pc' := 21) hk (.lcmp) 1 rfl rfl rfl ?_
    refine ev_d1 26 24 hk rfl rfl rfl rfl (px_lne hx (fun hc hx => ?_) (fun hc hx => ?_))
    · refine ev_ls (L' := [some (.ref 1), some (.ref g), some (.int (b2i a2)), some (.long v2), none, none, none]) (st' := [.ref g]) (pc' := 27) hk (.aload_n 1) 1 rfl rfl rfl rfl ?_
      refine ev_ls (L' := [some (.ref 1), some (.ref g), some (.int (b2i a2)), some (.long v2), none, none, none]) (st' := [.long v2, .ref g]) (pc' := 28) hk (.lload_n 3) 1 rfl rfl rfl rfl ?_
      obtain ⟨v4, hc5, hx⟩ := bnd_some hx
      refine ev_cv 249 1 [.int v4] 31 hk rfl rfl rfl rfl (lk_globe hg gup_same) rfl rfl rfl (rG_spotNamed hg hc5) rfl rfl rfl rfl ?_
      refine ev_op (st' := [.int (-1), .int v4]) (pc' := 32) hk (.iconst (-1)) 1 rfl rfl rfl ?_
      refine ev_d2 41 35 hk rfl rfl rfl rfl (px_ceq hx (fun hc hx => ?_) (fun hc hx => ?_))
      · refine ev_ls (L' := [some (.ref 1), some (.ref g), some (.int (b2i a2)), some (.long v2), none, none, none]) (st' := [.ref 1]) (pc' := 42) hk (.aload_n 0) 1 rfl rfl rfl rfl ?_
        refine ev_op (st' := [.int 0, .ref 1]) (pc' := 43) hk (.iconst 0) 1 rfl rfl rfl ?_
        refine ev_op (st' := [.int 8, .int 0, .ref 1]) (pc' := 45) hk (.bipush 8) 2 rfl rfl rfl ?_
        obtain ⟨v7, I6, hc8, hx⟩ := bnd2_some hx
        refine ev_cv 263 2 [.int v7] 48 hk rfl rfl rfl rfl lk_input rfl rfl rfl (rI_expectNumber hc8) rfl rfl rfl rfl ?_
        refine ev_ls (L' := [some (.ref 1), some (.ref g), some (.int (b2i a2)), some (.long v2), none, some (.int v7), none]) (st' := []) (pc' := 50) hk (.istore 5) 2 rfl rfl rfl rfl ?_
        refine ev_ls (L' := [some (.ref 1), some (.ref g), some (.int (b2i a2)), some (.long v2), none, some (.int v7), none]) (st' := [.int v7]) (pc' := 52) hk (.iload 5) 2 rfl rfl rfl rfl ?_
        refine ev_op (st' := [.int (-1), .int v7]) (pc' := 53) hk (.iconst (-1)) 1 rfl rfl rfl ?_
        refine ev_d2 58 56 hk rfl rfl rfl rfl (px_cne hx (fun hc hx => ?_) (fun hc hx => ?_))
        · refine ev_ls (L' := [some (.ref 1), some (.ref g), some (.int (b2i a2)), some (.long v2), none, some (.int v7), none]) (st' := [.ref 1]) (pc' := 59) hk (.aload_n 0) 1 rfl rfl rfl rfl ?_
          refine ev_op (st' := [.int 0, .ref 1]) (pc' := 60) hk (.iconst 0) 1 rfl rfl rfl ?_
          refine ev_op (st' := [.int 359, .int 0, .ref 1]) (pc' := 63) hk (.sipush 359) 3 rfl rfl rfl ?_
          obtain ⟨v10, I9, hc11, hx⟩ := bnd2_some hx
          refine ev_cv 263 2 [.int v10] 66 hk rfl rfl rfl rfl lk_input rfl rfl rfl (rI_expectNumber hc11) rfl rfl rfl rfl ?_
          refine ev_ls (L' := [some (.ref 1), some (.ref g), some (.int (b2i a2)), some (.long v2), none, some (.int v7), some (.int v10)]) (st' := []) (pc' := 68) hk (.istore 6) 2 rfl rfl rfl rfl ?_
          refine ev_ls (L' := [some (.ref 1), some (.ref g), some (.int (b2i a2)), some (.long v2), none, some (.int v7), some (.int v10)]) (st' := [.int v10]) (pc' := 70) hk (.iload 6) 2 rfl rfl rfl rfl ?_
          refine ev_op (st' := [.int (-1), .int v10]) (pc' := 71) hk (.iconst (-1)) 1 rfl rfl rfl ?_
          refine ev_d2 76 74 hk rfl rfl rfl rfl (px_cne hx (fun hc hx => ?_) (fun hc hx => ?_))
          · refine ev_ls (L' := [some (.ref 1), some (.ref g), some (.int (b2i a2)), some (.long v2), none, some (.int v7), some (.int v10)]) (st' := [.ref g]) (pc' := 77) hk (.aload_n 1) 1 rfl rfl rfl rfl ?_
            refine ev_ls (L' := [some (.ref 1), some (.ref g), some (.int (b2i a2)), some (.long v2), none, some (.int v7), some (.int v10)]) (st' := [.long v2, .ref g]) (pc' := 78) hk (.lload_n 3) 1 rfl rfl rfl rfl ?_
            refine ev_ls (L' := [some (.ref 1), some (.ref g), some (.int (b2i a2)), some (.long v2), none, some (.int v7), some (.int v10)]) (st' := [.int v7, .long v2, .ref g]) (pc' := 80) hk (.iload 5) 2 rfl rfl rfl rfl ?_
            refine ev_ls (L' := [some (.ref 1), some (.ref g), some (.int (b2i a2)), some (.long v2), none, some (.int v7), some (.int v10)]) (st' := [.int v10, .int v7, .long v2, .ref g]) (pc' := 82) hk (.iload 6) 2 rfl rfl rfl rfl ?_
            refine ev_ls (L' := [some (.ref 1), some (.ref g), some (.int (b2i a2)), some (.long v2), none, some (.int v7), some (.int v10)]) (st' := [.int (b2i a2), .int v10, .int v7, .long v2, .ref g]) (pc' := 83) hk (.iload_n 2) 1 rfl rfl rfl rfl ?_
            obtain ⟨v13, G12, hc14, hx⟩ := bnd2_some hx
            refine ev_cv 245 4 [.int v13] 86 hk rfl rfl rfl rfl (lk_globe hg gup_same) rfl rfl rfl (rG_settle hg hc14) rfl rfl rfl rfl ?_
            refine ev_op (st' := []) (pc' := 87) hk (.pop) 1 rfl rfl rfl ?_
            refine ev_op (st' := [.int 1]) (pc' := 88) hk (.iconst 1) 1 rfl rfl rfl ?_
            cases hx
            obtain rfl := hM
            exact ev_retZ true rfl hk rfl rfl
          · refine ev_op (st' := [.int 0]) (pc' := 75) hk (.iconst 0) 1 rfl rfl rfl ?_
            cases hx
            obtain rfl := hM
            exact ev_retZ false rfl hk rfl rfl
        · refine ev_op (st' := [.int 0]) (pc' := 57) hk (.iconst 0) 1 rfl rfl rfl ?_
          cases hx
          obtain rfl := hM
          exact ev_retZ false rfl hk rfl rfl
      · refine ev_ls (L' := [some (.ref 1), some (.ref g), some (.int (b2i a2)), some (.long v2), none, none, none]) (st' := [.ref 1]) (pc' := 36) hk (.aload_n 0) 1 rfl rfl rfl rfl ?_
        refine ev_op (st' := [.int 3, .ref 1]) (pc' := 37) hk (.iconst 3) 1 rfl rfl rfl ?_
        obtain ⟨v16, I15, hc17, hx⟩ := bnd2_some hx
        refine ev_cv 266 1 [.int (b2i v16)] 40 hk rfl rfl rfl rfl lk_input rfl rfl rfl (rI_fail hc17) rfl rfl rfl rfl ?_
        cases hx
        obtain rfl := hM
        exact ev_retZ _ rfl hk rfl rfl
    · refine ev_op (st' := [.int 0]) (pc' := 25) hk (.iconst 0) 1 rfl rfl rfl ?_
      cases hx
      obtain rfl := hM
      exact ev_retZ false rfl hk rfl rfl
  · refine ev_ls (L' := [some (.ref 1), some (.ref g), some (.int (b2i a2)), none, none, none, none]) (st' := [.ref 1]) (pc' := 8) hk (.aload_n 0) 1 rfl rfl rfl rfl ?_
    refine ev_op (st' := [.int 4, .ref 1]) (pc' := 9) hk (.iconst 4) 1 rfl rfl rfl ?_
    obtain ⟨v19, I18, hc20, hx⟩ := bnd2_some hx
    refine ev_cv 266 1 [.int (b2i v19)] 12 hk rfl rfl rfl rfl lk_input rfl rfl rfl (rI_fail hc20) rfl rfl rfl rfl ?_
    cases hx
    obtain rfl := hM
    exact ev_retZ _ rfl hk rfl rfl
set_option maxRecDepth 4000 in
theorem rD_readLabel {S : Nat} {xs : Nat → Int32} {I : zI} {C : zC} {Y : Nat → Int32} {Γ : Nat → zG} {D : zD} {O : Nat → Int32} {M : zM} {ou : Nat → Int64} {od : Nat → UInt64} {j : Nat} {g : Nat} {G : zG}  {X : Bool × zI × zG}  (hg : isG g) (hx : fD_readLabel I G = some X) : Ev S xs 206 0 [some (.ref 1), some (.ref g), none, none, none] [] (zH I C Y (gup Γ g G) D O M ou od j) (((.inl (some (.int (b2i X.1)))), (zH X.2.1 C Y (gup Γ g X.2.2) D O M ou od j)) : (Option Value ⊕ String) × px_H) := by
  generalize hM : (((.inl (some (.int (b2i X.1)))), (zH X.2.1 C Y (gup Γ g X.2.2) D O M ou od j)) : (Option Value ⊕ String) × px_H) = y
  replace hM := hM.symm
  have hk : pt_mt[206]? = some pt_r206 := rfl
  unfold fD_readLabel at hx
  refine ev_ls (L' := [some (.ref 1), some (.ref g), none, none, none]) (st' := [.ref g]) (pc' := 1) hk (.aload_n 1) 1 rfl rfl rfl rfl ?_
  refine ev_cv 222 0 [.int (b2i (fG_hasRoomForLabel G))] 4 hk rfl rfl rfl rfl (lk_globe hg gup_same) rfl rfl rfl (rG_hasRoomForLabel hg rfl) rfl rfl rfl rfl ?_
  refine ev_d1 13 7 hk rfl rfl rfl rfl (px_bne hx (fun hc hx => ?_) (fun hc hx => ?_))
  · refine ev_ls (L' := [some (.ref 1), some (.ref g), none, none, none]) (st' := [.ref 1]) (pc' := 14) hk (.aload_n 0) 1 rfl rfl rfl rfl ?_
    obtain ⟨v2, I1, hc3, hx⟩ := bnd2_some hx
    refine ev_cv 265 0 [.long v2] 17 hk rfl rfl rfl rfl lk_input rfl rfl rfl (rI_expectWord hc3) rfl rfl rfl rfl ?_
    obtain ⟨v4, hc5, hx⟩ := bnd_some hx
    refine ev_cs 299 1 [.int v4] 20 hk rfl rfl (by decide) rfl rfl rfl (rW_letterCount hc5) rfl rfl rfl rfl ?_
    refine ev_ls (L' := [some (.ref 1), some (.ref g), some (.int v4), none, none]) (st' := []) (pc' := 21) hk (.istore_n 2) 1 rfl rfl rfl rfl ?_
    refine ev_ls (L' := [some (.ref 1), some (.ref g), some (.int v4), none, none]) (st' := [.int v4]) (pc' := 22) hk (.iload_n 2) 1 rfl rfl rfl rfl ?_
    refine ev_d1 27 25 hk rfl rfl rfl rfl (px_cne hx (fun hc hx => ?_) (fun hc hx => ?_))
    · refine ev_ls (L' := [some (.ref 1), some (.ref g), some (.int v4), none, none]) (st' := [.ref 1]) (pc' := 28) hk (.aload_n 0) 1 rfl rfl rfl rfl ?_
      refine ev_op (st' := [.int 0, .ref 1]) (pc' := 29) hk (.iconst 0) 1 rfl rfl rfl ?_
      refine ev_op (st' := [.int 8, .int 0, .ref 1]) (pc' := 31) hk (.bipush 8) 2 rfl rfl rfl ?_
      obtain ⟨v7, I6, hc8, hx⟩ := bnd2_some hx
      refine ev_cv 263 2 [.int v7] 34 hk rfl rfl rfl rfl lk_input rfl rfl rfl (rI_expectNumber hc8) rfl rfl rfl rfl ?_
      refine ev_ls (L' := [some (.ref 1), some (.ref g), some (.int v4), some (.int v7), none]) (st' := []) (pc' := 35) hk (.istore_n 3) 1 rfl rfl rfl rfl ?_
      refine ev_ls (L' := [some (.ref 1), some (.ref g), some (.int v4), some (.int v7), none]) (st' := [.int v7]) (pc' := 36) hk (.iload_n 3) 1 rfl rfl rfl rfl ?_
      refine ev_op (st' := [.int (-1), .int v7]) (pc' := 37) hk (.iconst (-1)) 1 rfl rfl rfl ?_
      refine ev_d2 42 40 hk rfl rfl rfl rfl (px_cne hx (fun hc hx => ?_) (fun hc hx => ?_))
      · refine ev_ls (L' := [some (.ref 1), some (.ref g), some (.int v4), some (.int v7), none]) (st' := [.ref 1]) (pc' := 43) hk (.aload_n 0) 1 rfl rfl rfl rfl ?_
        refine ev_op (st' := [.int 0, .ref 1]) (pc' := 44) hk (.iconst 0) 1 rfl rfl rfl ?_
        refine ev_op (st' := [.int 359, .int 0, .ref 1]) (pc' := 47) hk (.sipush 359) 3 rfl rfl rfl ?_
        obtain ⟨v10, I9, hc11, hx⟩ := bnd2_some hx
        refine ev_cv 263 2 [.int v10] 50 hk rfl rfl rfl rfl lk_input rfl rfl rfl (rI_expectNumber hc11) rfl rfl rfl rfl ?_
        refine ev_ls (L' := [some (.ref 1), some (.ref g), some (.int v4), some (.int v7), some (.int v10)]) (st' := []) (pc' := 52) hk (.istore 4) 2 rfl rfl rfl rfl ?_
        refine ev_ls (L' := [some (.ref 1), some (.ref g), some (.int v4), some (.int v7), some (.int v10)]) (st' := [.int v10]) (pc' := 54) hk (.iload 4) 2 rfl rfl rfl rfl ?_
        refine ev_op (st' := [.int (-1), .int v10]) (pc' := 55) hk (.iconst (-1)) 1 rfl rfl rfl ?_
        refine ev_d2 60 58 hk rfl rfl rfl rfl (px_cne hx (fun hc hx => ?_) (fun hc hx => ?_))
        · refine ev_ls (L' := [some (.ref 1), some (.ref g), some (.int v4), some (.int v7), some (.int v10)]) (st' := [.ref g]) (pc' := 61) hk (.aload_n 1) 1 rfl rfl rfl rfl ?_
          refine ev_ls (L' := [some (.ref 1), some (.ref g), some (.int v4), some (.int v7), some (.int v10)]) (st' := [.int v4, .ref g]) (pc' := 62) hk (.iload_n 2) 1 rfl rfl rfl rfl ?_
          refine ev_ls (L' := [some (.ref 1), some (.ref g), some (.int v4), some (.int v7), some (.int v10)]) (st' := [.int v7, .int v4, .ref g]) (pc' := 63) hk (.iload_n 3) 1 rfl rfl rfl rfl ?_
          refine ev_ls (L' := [some (.ref 1), some (.ref g), some (.int v4), some (.int v7), some (.int v10)]) (st' := [.int v10, .int v7, .int v4, .ref g]) (pc' := 65) hk (.iload 4) 2 rfl rfl rfl rfl ?_
          obtain ⟨v12, hc13, hx⟩ := bnd_some hx
          refine ev_cv 231 3 [.int v12] 68 hk rfl rfl rfl rfl (lk_globe hg gup_same) rfl rfl rfl (rG_labelHindrance hg hc13) rfl rfl rfl rfl ?_
          refine ev_d1 77 71 hk rfl rfl rfl rfl (px_ceq hx (fun hc hx => ?_) (fun hc hx => ?_))
          · refine ev_ls (L' := [some (.ref 1), some (.ref g), some (.int v4), some (.int v7), some (.int v10)]) (st' := [.ref g]) (pc' := 78) hk (.aload_n 1) 1 rfl rfl rfl rfl ?_
            refine ev_ls (L' := [some (.ref 1), some (.ref g), some (.int v4), some (.int v7), some (.int v10)]) (st' := [.int v4, .ref g]) (pc' := 79) hk (.iload_n 2) 1 rfl rfl rfl rfl ?_
            refine ev_ls (L' := [some (.ref 1), some (.ref g), some (.int v4), some (.int v7), some (.int v10)]) (st' := [.int v7, .int v4, .ref g]) (pc' := 80) hk (.iload_n 3) 1 rfl rfl rfl rfl ?_
            refine ev_ls (L' := [some (.ref 1), some (.ref g), some (.int v4), some (.int v7), some (.int v10)]) (st' := [.int v10, .int v7, .int v4, .ref g]) (pc' := 82) hk (.iload 4) 2 rfl rfl rfl rfl ?_
            obtain ⟨v15, G14, hc16, hx⟩ := bnd2_some hx
            refine ev_cv 246 3 [.int v15] 85 hk rfl rfl rfl rfl (lk_globe hg gup_same) rfl rfl rfl (rG_sewLabelOn hg hc16) rfl rfl rfl rfl ?_
            refine ev_op (st' := []) (pc' := 86) hk (.pop) 1 rfl rfl rfl ?_
            refine ev_op (st' := [.int 1]) (pc' := 87) hk (.iconst 1) 1 rfl rfl rfl ?_
            cases hx
            obtain rfl := hM
            exact ev_retZ true rfl hk rfl rfl
          · refine ev_ls (L' := [some (.ref 1), some (.ref g), some (.int v4), some (.int v7), some (.int v10)]) (st' := [.ref 1]) (pc' := 72) hk (.aload_n 0) 1 rfl rfl rfl rfl ?_
            refine ev_op (st' := [.int 5, .ref 1]) (pc' := 73) hk (.iconst 5) 1 rfl rfl rfl ?_
            obtain ⟨v18, I17, hc19, hx⟩ := bnd2_some hx
            refine ev_cv 266 1 [.int (b2i v18)] 76 hk rfl rfl rfl rfl lk_input rfl rfl rfl (rI_fail hc19) rfl rfl rfl rfl ?_
            cases hx
            obtain rfl := hM
            exact ev_retZ _ rfl hk rfl rfl
        · refine ev_op (st' := [.int 0]) (pc' := 59) hk (.iconst 0) 1 rfl rfl rfl ?_
          cases hx
          obtain rfl := hM
          exact ev_retZ false rfl hk rfl rfl
      · refine ev_op (st' := [.int 0]) (pc' := 41) hk (.iconst 0) 1 rfl rfl rfl ?_
        cases hx
        obtain rfl := hM
        exact ev_retZ false rfl hk rfl rfl
    · refine ev_op (st' := [.int 0]) (pc' := 26) hk (.iconst 0) 1 rfl rfl rfl ?_
      cases hx
      obtain rfl := hM
      exact ev_retZ false rfl hk rfl rfl
  · refine ev_ls (L' := [some (.ref 1), some (.ref g), none, none, none]) (st' := [.ref 1]) (pc' := 8) hk (.aload_n 0) 1 rfl rfl rfl rfl ?_
    refine ev_op (st' := [.int 4, .ref 1]) (pc' := 9) hk (.iconst 4) 1 rfl rfl rfl ?_
    obtain ⟨v21, I20, hc22, hx⟩ := bnd2_some hx
    refine ev_cv 266 1 [.int (b2i v21)] 12 hk rfl rfl rfl rfl lk_input rfl rfl rfl (rI_fail hc22) rfl rfl rfl rfl ?_
    cases hx
    obtain rfl := hM
    exact ev_retZ _ rfl hk rfl rfl
set_option maxRecDepth 2000 in
theorem rD_readHem {S : Nat} {xs : Nat → Int32} {I : zI} {C : zC} {Y : Nat → Int32} {Γ : Nat → zG} {D : zD} {O : Nat → Int32} {M : zM} {ou : Nat → Int64} {od : Nat → UInt64} {j : Nat} {g : Nat} {G : zG}  {X : Bool × zI × zG}  (hg : isG g) (hx : fD_readHem I G = some X) : Ev S xs 205 0 [some (.ref 1), some (.ref g), none, none] [] (zH I C Y (gup Γ g G) D O M ou od j) (((.inl (some (.int (b2i X.1)))), (zH X.2.1 C Y (gup Γ g X.2.2) D O M ou od j)) : (Option Value ⊕ String) × px_H) := by
  generalize hM : (((.inl (some (.int (b2i X.1)))), (zH X.2.1 C Y (gup Γ g X.2.2) D O M ou od j)) : (Option Value ⊕ String) × px_H) = y
  replace hM := hM.symm
  have hk : pt_mt[205]? = some pt_r205 := rfl
  unfold fD_readHem at hx
  refine ev_ls (L' := [some (.ref 1), some (.ref g), none, none]) (st' := [.ref 1]) (pc' := 1) hk (.aload_n 0) 1 rfl rfl rfl rfl ?_
  refine ev_op (st' := [.int 0, .ref 1]) (pc' := 2) hk (.iconst 0) 1 rfl rfl rfl ?_
  refine ev_op (st' := [.int 8, .int 0, .ref 1]) (pc' := 4) hk (.bipush 8) 2 rfl rfl rfl ?_
  obtain ⟨v2, I1, hc3, hx⟩ := bnd2_some hx
  refine ev_cv 263 2 [.int v2] 7 hk rfl rfl rfl rfl lk_input rfl rfl rfl (rI_expectNumber hc3) rfl rfl rfl rfl ?_
  refine ev_ls (L' := [some (.ref 1), some (.ref g), some (.int v2), none]) (st' := []) (pc' := 8) hk (.istore_n 2) 1 rfl rfl rfl rfl ?_
  refine ev_ls (L' := [some (.ref 1), some (.ref g), some (.int v2), none]) (st' := [.int v2]) (pc' := 9) hk (.iload_n 2) 1 rfl rfl rfl rfl ?_
  refine ev_op (st' := [.int (-1), .int v2]) (pc' := 10) hk (.iconst (-1)) 1 rfl rfl rfl ?_
  refine ev_d2 15 13 hk rfl rfl rfl rfl (px_cne hx (fun hc hx => ?_) (fun hc hx => ?_))
  · refine ev_ls (L' := [some (.ref 1), some (.ref g), some (.int v2), none]) (st' := [.ref 1]) (pc' := 16) hk (.aload_n 0) 1 rfl rfl rfl rfl ?_
    refine ev_op (st' := [.int 0, .ref 1]) (pc' := 17) hk (.iconst 0) 1 rfl rfl rfl ?_
    refine ev_op (st' := [.int 359, .int 0, .ref 1]) (pc' := 20) hk (.sipush 359) 3 rfl rfl rfl ?_
    obtain ⟨v5, I4, hc6, hx⟩ := bnd2_some hx
    refine ev_cv 263 2 [.int v5] 23 hk rfl rfl rfl rfl lk_input rfl rfl rfl (rI_expectNumber hc6) rfl rfl rfl rfl ?_
    refine ev_ls (L' := [some (.ref 1), some (.ref g), some (.int v2), some (.int v5)]) (st' := []) (pc' := 24) hk (.istore_n 3) 1 rfl rfl rfl rfl ?_
    refine ev_ls (L' := [some (.ref 1), some (.ref g), some (.int v2), some (.int v5)]) (st' := [.int v5]) (pc' := 25) hk (.iload_n 3) 1 rfl rfl rfl rfl ?_
    refine ev_op (st' := [.int (-1), .int v5]) (pc' := 26) hk (.iconst (-1)) 1 rfl rfl rfl ?_
    refine ev_d2 31 29 hk rfl rfl rfl rfl (px_cne hx (fun hc hx => ?_) (fun hc hx => ?_))
    · refine ev_ls (L' := [some (.ref 1), some (.ref g), some (.int v2), some (.int v5)]) (st' := [.ref g]) (pc' := 32) hk (.aload_n 1) 1 rfl rfl rfl rfl ?_
      refine ev_ls (L' := [some (.ref 1), some (.ref g), some (.int v2), some (.int v5)]) (st' := [.int v2, .ref g]) (pc' := 33) hk (.iload_n 2) 1 rfl rfl rfl rfl ?_
      refine ev_ls (L' := [some (.ref 1), some (.ref g), some (.int v2), some (.int v5)]) (st' := [.int v5, .int v2, .ref g]) (pc' := 34) hk (.iload_n 3) 1 rfl rfl rfl rfl ?_
      obtain ⟨v7, hc8, hx⟩ := bnd_some hx
      refine ev_cv 225 2 [.int v7] 37 hk rfl rfl rfl rfl (lk_globe hg gup_same) rfl rfl rfl (rG_hemHindrance hg hc8) rfl rfl rfl rfl ?_
      refine ev_d1 46 40 hk rfl rfl rfl rfl (px_ceq hx (fun hc hx => ?_) (fun hc hx => ?_))
      · refine ev_ls (L' := [some (.ref 1), some (.ref g), some (.int v2), some (.int v5)]) (st' := [.ref g]) (pc' := 47) hk (.aload_n 1) 1 rfl rfl rfl rfl ?_
        refine ev_ls (L' := [some (.ref 1), some (.ref g), some (.int v2), some (.int v5)]) (st' := [.int v2, .ref g]) (pc' := 48) hk (.iload_n 2) 1 rfl rfl rfl rfl ?_
        refine ev_ls (L' := [some (.ref 1), some (.ref g), some (.int v2), some (.int v5)]) (st' := [.int v5, .int v2, .ref g]) (pc' := 49) hk (.iload_n 3) 1 rfl rfl rfl rfl ?_
        obtain ⟨v10, G9, hc11, hx⟩ := bnd2_some hx
        refine ev_cv 248 2 [.int v10] 52 hk rfl rfl rfl rfl (lk_globe hg gup_same) rfl rfl rfl (rG_shiftHem hg hc11) rfl rfl rfl rfl ?_
        refine ev_op (st' := []) (pc' := 53) hk (.pop) 1 rfl rfl rfl ?_
        refine ev_op (st' := [.int 1]) (pc' := 54) hk (.iconst 1) 1 rfl rfl rfl ?_
        cases hx
        obtain rfl := hM
        exact ev_retZ true rfl hk rfl rfl
      · refine ev_ls (L' := [some (.ref 1), some (.ref g), some (.int v2), some (.int v5)]) (st' := [.ref 1]) (pc' := 41) hk (.aload_n 0) 1 rfl rfl rfl rfl ?_
        refine ev_op (st' := [.int 5, .ref 1]) (pc' := 42) hk (.iconst 5) 1 rfl rfl rfl ?_
        obtain ⟨v13, I12, hc14, hx⟩ := bnd2_some hx
        refine ev_cv 266 1 [.int (b2i v13)] 45 hk rfl rfl rfl rfl lk_input rfl rfl rfl (rI_fail hc14) rfl rfl rfl rfl ?_
        cases hx
        obtain rfl := hM
        exact ev_retZ _ rfl hk rfl rfl
    · refine ev_op (st' := [.int 0]) (pc' := 30) hk (.iconst 0) 1 rfl rfl rfl ?_
      cases hx
      obtain rfl := hM
      exact ev_retZ false rfl hk rfl rfl
  · refine ev_op (st' := [.int 0]) (pc' := 14) hk (.iconst 0) 1 rfl rfl rfl ?_
    cases hx
    obtain rfl := hM
    exact ev_retZ false rfl hk rfl rfl
set_option maxRecDepth 2000 in
theorem rD_readSew {S : Nat} {xs : Nat → Int32} {I : zI} {C : zC} {Y : Nat → Int32} {Γ : Nat → zG} {D : zD} {O : Nat → Int32} {M : zM} {ou : Nat → Int64} {od : Nat → UInt64} {j : Nat} {g : Nat} {G : zG}  {X : Bool × zI × zG}  (hg : isG g) (hx : fD_readSew I G = some X) : Ev S xs 208 0 [some (.ref 1), some (.ref g), none, none] [] (zH I C Y (gup Γ g G) D O M ou od j) (((.inl (some (.int (b2i X.1)))), (zH X.2.1 C Y (gup Γ g X.2.2) D O M ou od j)) : (Option Value ⊕ String) × px_H) := by
  generalize hM : (((.inl (some (.int (b2i X.1)))), (zH X.2.1 C Y (gup Γ g X.2.2) D O M ou od j)) : (Option Value ⊕ String) × px_H) = y
  replace hM := hM.symm
  have hk : pt_mt[208]? = some pt_r208 := rfl
  unfold fD_readSew at hx
  refine ev_ls (L' := [some (.ref 1), some (.ref g), none, none]) (st' := [.ref 1]) (pc' := 1) hk (.aload_n 0) 1 rfl rfl rfl rfl ?_
  refine ev_op (st' := [.int 0, .ref 1]) (pc' := 2) hk (.iconst 0) 1 rfl rfl rfl ?_
  refine ev_ls (L' := [some (.ref 1), some (.ref g), none, none]) (st' := [.ref g, .int 0, .ref 1]) (pc' := 3) hk (.aload_n 1) 1 rfl rfl rfl rfl ?_
  refine ev_gf (.ref (g + 1)) 6 hk rfl rfl (lk_globe hg gup_same) rfl rfl ?_
  refine ev_gf (.int (gF G 1 0)) 9 hk rfl rfl (lk_cloth hg gup_same) rfl rfl ?_
  refine ev_op (st' := [.int 1, .int (gF G 1 0), .int 0, .ref 1]) (pc' := 10) hk (.iconst 1) 1 rfl rfl rfl ?_
  refine ev_op (st' := [.int ((gF G 1 0) - 1), .int 0, .ref 1]) (pc' := 11) hk (.isub) 1 rfl rfl rfl ?_
  obtain ⟨v2, I1, hc3, hx⟩ := bnd2_some hx
  refine ev_cv 263 2 [.int v2] 14 hk rfl rfl rfl rfl lk_input rfl rfl rfl (rI_expectNumber hc3) rfl rfl rfl rfl ?_
  refine ev_ls (L' := [some (.ref 1), some (.ref g), some (.int v2), none]) (st' := []) (pc' := 15) hk (.istore_n 2) 1 rfl rfl rfl rfl ?_
  refine ev_ls (L' := [some (.ref 1), some (.ref g), some (.int v2), none]) (st' := [.int v2]) (pc' := 16) hk (.iload_n 2) 1 rfl rfl rfl rfl ?_
  refine ev_op (st' := [.int (-1), .int v2]) (pc' := 17) hk (.iconst (-1)) 1 rfl rfl rfl ?_
  refine ev_d2 22 20 hk rfl rfl rfl rfl (px_cne hx (fun hc hx => ?_) (fun hc hx => ?_))
  · refine ev_ls (L' := [some (.ref 1), some (.ref g), some (.int v2), none]) (st' := [.ref 1]) (pc' := 23) hk (.aload_n 0) 1 rfl rfl rfl rfl ?_
    refine ev_op (st' := [.int 1, .ref 1]) (pc' := 24) hk (.iconst 1) 1 rfl rfl rfl ?_
    refine ev_op (st' := [.int 99, .int 1, .ref 1]) (pc' := 26) hk (.bipush 99) 2 rfl rfl rfl ?_
    obtain ⟨v5, I4, hc6, hx⟩ := bnd2_some hx
    refine ev_cv 263 2 [.int v5] 29 hk rfl rfl rfl rfl lk_input rfl rfl rfl (rI_expectNumber hc6) rfl rfl rfl rfl ?_
    refine ev_ls (L' := [some (.ref 1), some (.ref g), some (.int v2), some (.int v5)]) (st' := []) (pc' := 30) hk (.istore_n 3) 1 rfl rfl rfl rfl ?_
    refine ev_ls (L' := [some (.ref 1), some (.ref g), some (.int v2), some (.int v5)]) (st' := [.int v5]) (pc' := 31) hk (.iload_n 3) 1 rfl rfl rfl rfl ?_
    refine ev_op (st' := [.int (-1), .int v5]) (pc' := 32) hk (.iconst (-1)) 1 rfl rfl rfl ?_
    refine ev_d2 37 35 hk rfl rfl rfl rfl (px_cne hx (fun hc hx => ?_) (fun hc hx => ?_))
    · refine ev_ls (L' := [some (.ref 1), some (.ref g), some (.int v2), some (.int v5)]) (st' := [.ref g]) (pc' := 38) hk (.aload_n 1) 1 rfl rfl rfl rfl ?_
      refine ev_ls (L' := [some (.ref 1), some (.ref g), some (.int v2), some (.int v5)]) (st' := [.int v2, .ref g]) (pc' := 39) hk (.iload_n 2) 1 rfl rfl rfl rfl ?_
      refine ev_ls (L' := [some (.ref 1), some (.ref g), some (.int v2), some (.int v5)]) (st' := [.int v5, .int v2, .ref g]) (pc' := 40) hk (.iload_n 3) 1 rfl rfl rfl rfl ?_
      obtain ⟨v7, hc8, hx⟩ := bnd_some hx
      refine ev_cv 215 2 [.int (b2i v7)] 43 hk rfl rfl rfl rfl (lk_globe hg gup_same) rfl rfl rfl (rG_canSew hg hc8) rfl rfl rfl rfl ?_
      refine ev_d1 52 46 hk rfl rfl rfl rfl (px_bne hx (fun hc hx => ?_) (fun hc hx => ?_))
      · refine ev_ls (L' := [some (.ref 1), some (.ref g), some (.int v2), some (.int v5)]) (st' := [.ref g]) (pc' := 53) hk (.aload_n 1) 1 rfl rfl rfl rfl ?_
        refine ev_ls (L' := [some (.ref 1), some (.ref g), some (.int v2), some (.int v5)]) (st' := [.int v2, .ref g]) (pc' := 54) hk (.iload_n 2) 1 rfl rfl rfl rfl ?_
        refine ev_ls (L' := [some (.ref 1), some (.ref g), some (.int v2), some (.int v5)]) (st' := [.int v5, .int v2, .ref g]) (pc' := 55) hk (.iload_n 3) 1 rfl rfl rfl rfl ?_
        obtain ⟨v10, G9, hc11, hx⟩ := bnd2_some hx
        refine ev_cv 214 2 [.int v10] 58 hk rfl rfl rfl rfl (lk_globe hg gup_same) rfl rfl rfl (rG_addStitches hg hc11) rfl rfl rfl rfl ?_
        refine ev_op (st' := []) (pc' := 59) hk (.pop) 1 rfl rfl rfl ?_
        refine ev_op (st' := [.int 1]) (pc' := 60) hk (.iconst 1) 1 rfl rfl rfl ?_
        cases hx
        obtain rfl := hM
        exact ev_retZ true rfl hk rfl rfl
      · refine ev_ls (L' := [some (.ref 1), some (.ref g), some (.int v2), some (.int v5)]) (st' := [.ref 1]) (pc' := 47) hk (.aload_n 0) 1 rfl rfl rfl rfl ?_
        refine ev_op (st' := [.int 5, .ref 1]) (pc' := 48) hk (.iconst 5) 1 rfl rfl rfl ?_
        obtain ⟨v13, I12, hc14, hx⟩ := bnd2_some hx
        refine ev_cv 266 1 [.int (b2i v13)] 51 hk rfl rfl rfl rfl lk_input rfl rfl rfl (rI_fail hc14) rfl rfl rfl rfl ?_
        cases hx
        obtain rfl := hM
        exact ev_retZ _ rfl hk rfl rfl
    · refine ev_op (st' := [.int 0]) (pc' := 36) hk (.iconst 0) 1 rfl rfl rfl ?_
      cases hx
      obtain rfl := hM
      exact ev_retZ false rfl hk rfl rfl
  · refine ev_op (st' := [.int 0]) (pc' := 21) hk (.iconst 0) 1 rfl rfl rfl ?_
    cases hx
    obtain rfl := hM
    exact ev_retZ false rfl hk rfl rfl
set_option maxRecDepth 2000 in
theorem rD_readRip {S : Nat} {xs : Nat → Int32} {I : zI} {C : zC} {Y : Nat → Int32} {Γ : Nat → zG} {D : zD} {O : Nat → Int32} {M : zM} {ou : Nat → Int64} {od : Nat → UInt64} {j : Nat} {g : Nat} {G : zG}  {X : Bool × zI × zG}  (hg : isG g) (hx : fD_readRip I G = some X) : Ev S xs 207 0 [some (.ref 1), some (.ref g), none] [] (zH I C Y (gup Γ g G) D O M ou od j) (((.inl (some (.int (b2i X.1)))), (zH X.2.1 C Y (gup Γ g X.2.2) D O M ou od j)) : (Option Value ⊕ String) × px_H) := by
  generalize hM : (((.inl (some (.int (b2i X.1)))), (zH X.2.1 C Y (gup Γ g X.2.2) D O M ou od j)) : (Option Value ⊕ String) × px_H) = y
  replace hM := hM.symm
  have hk : pt_mt[207]? = some pt_r207 := rfl
  unfold fD_readRip at hx
  refine ev_ls (L' := [some (.ref 1), some (.ref g), none]) (st' := [.ref 1]) (pc' := 1) hk (.aload_n 0) 1 rfl rfl rfl rfl ?_
  refine ev_op (st' := [.int 0, .ref 1]) (pc' := 2) hk (.iconst 0) 1 rfl rfl rfl ?_
  refine ev_ls (L' := [some (.ref 1), some (.ref g), none]) (st' := [.ref g, .int 0, .ref 1]) (pc' := 3) hk (.aload_n 1) 1 rfl rfl rfl rfl ?_
  refine ev_gf (.ref (g + 1)) 6 hk rfl rfl (lk_globe hg gup_same) rfl rfl ?_
  refine ev_gf (.int (gF G 1 0)) 9 hk rfl rfl (lk_cloth hg gup_same) rfl rfl ?_
  refine ev_op (st' := [.int 1, .int (gF G 1 0), .int 0, .ref 1]) (pc' := 10) hk (.iconst 1) 1 rfl rfl rfl ?_
  refine ev_op (st' := [.int ((gF G 1 0) - 1), .int 0, .ref 1]) (pc' := 11) hk (.isub) 1 rfl rfl rfl ?_
  obtain ⟨v2, I1, hc3, hx⟩ := bnd2_some hx
  refine ev_cv 263 2 [.int v2] 14 hk rfl rfl rfl rfl lk_input rfl rfl rfl (rI_expectNumber hc3) rfl rfl rfl rfl ?_
  refine ev_ls (L' := [some (.ref 1), some (.ref g), some (.int v2)]) (st' := []) (pc' := 15) hk (.istore_n 2) 1 rfl rfl rfl rfl ?_
  refine ev_ls (L' := [some (.ref 1), some (.ref g), some (.int v2)]) (st' := [.int v2]) (pc' := 16) hk (.iload_n 2) 1 rfl rfl rfl rfl ?_
  refine ev_op (st' := [.int (-1), .int v2]) (pc' := 17) hk (.iconst (-1)) 1 rfl rfl rfl ?_
  refine ev_d2 22 20 hk rfl rfl rfl rfl (px_cne hx (fun hc hx => ?_) (fun hc hx => ?_))
  · refine ev_ls (L' := [some (.ref 1), some (.ref g), some (.int v2)]) (st' := [.ref g]) (pc' := 23) hk (.aload_n 1) 1 rfl rfl rfl rfl ?_
    refine ev_gf (.ref (g + 1)) 26 hk rfl rfl (lk_globe hg gup_same) rfl rfl ?_
    refine ev_ls (L' := [some (.ref 1), some (.ref g), some (.int v2)]) (st' := [.int v2, .ref (g + 1)]) (pc' := 27) hk (.iload_n 2) 1 rfl rfl rfl rfl ?_
    obtain ⟨v4, hc5, hx⟩ := bnd_some hx
    refine ev_cv 11 1 [.int (b2i v4)] 30 hk rfl rfl rfl rfl (lk_cloth hg gup_same) rfl rfl rfl (rC_isTorn hg hc5) rfl rfl rfl rfl ?_
    refine ev_d1 39 33 hk rfl rfl rfl rfl (px_beq hx (fun hc hx => ?_) (fun hc hx => ?_))
    · refine ev_ls (L' := [some (.ref 1), some (.ref g), some (.int v2)]) (st' := [.ref g]) (pc' := 40) hk (.aload_n 1) 1 rfl rfl rfl rfl ?_
      refine ev_ls (L' := [some (.ref 1), some (.ref g), some (.int v2)]) (st' := [.int v2, .ref g]) (pc' := 41) hk (.iload_n 2) 1 rfl rfl rfl rfl ?_
      obtain ⟨v7, G6, hc8, hx⟩ := bnd2_some hx
      refine ev_cv 241 1 [.int v7] 44 hk rfl rfl rfl rfl (lk_globe hg gup_same) rfl rfl rfl (rG_openSeam hg hc8) rfl rfl rfl rfl ?_
      refine ev_op (st' := []) (pc' := 45) hk (.pop) 1 rfl rfl rfl ?_
      refine ev_op (st' := [.int 1]) (pc' := 46) hk (.iconst 1) 1 rfl rfl rfl ?_
      cases hx
      obtain rfl := hM
      exact ev_retZ true rfl hk rfl rfl
    · refine ev_ls (L' := [some (.ref 1), some (.ref g), some (.int v2)]) (st' := [.ref 1]) (pc' := 34) hk (.aload_n 0) 1 rfl rfl rfl rfl ?_
      refine ev_op (st' := [.int 5, .ref 1]) (pc' := 35) hk (.iconst 5) 1 rfl rfl rfl ?_
      obtain ⟨v10, I9, hc11, hx⟩ := bnd2_some hx
      refine ev_cv 266 1 [.int (b2i v10)] 38 hk rfl rfl rfl rfl lk_input rfl rfl rfl (rI_fail hc11) rfl rfl rfl rfl ?_
      cases hx
      obtain rfl := hM
      exact ev_retZ _ rfl hk rfl rfl
  · refine ev_op (st' := [.int 0]) (pc' := 21) hk (.iconst 0) 1 rfl rfl rfl ?_
    cases hx
    obtain rfl := hM
    exact ev_retZ false rfl hk rfl rfl
set_option maxRecDepth 4000 in
theorem rD_readWalk_j120 {S : Nat} {xs : Nat → Int32} {I : zI} {C : zC} {Y : Nat → Int32} {Γ : Nat → zG} {D : zD} {O : Nat → Int32} {M : zM} {ou : Nat → Int64} {od : Nat → UInt64} {j : Nat} {g : Nat} {G : zG} {a7 : Int32} {a0t : Bool} {p1t : Nat} {y : (Option Value ⊕ String) × px_H} {x : Bool × zI × zG} (hg : isG g) (hp1t : p1t < 10) (hx : fD_readWalk_j120 I G a7 a0t p1t = some x) (hM : (fun X : Bool × zI × zG => y = (((.inl (some (.int (b2i X.1)))), (zH X.2.1 C Y (gup Γ g X.2.2) D O M ou od j)) : (Option Value ⊕ String) × px_H)) x) (u0 : Option Value) (hu0 : px_cz u0 = true) (u1 : Option Value) (hu1 : px_cz u1 = true) (u2 : Option Value) (u4 : Option Value) (hu4 : px_cz u4 = true) (u5 : Option Value) : Ev S xs 212 120 [u0, u1, u2, none, u4, u5, none, some (.int a7)] [.int (b2i a0t), .ref (g + (7 + p1t))] (zH I C Y (gup Γ g G) D O M ou od j) y := by
  have hk : pt_mt[212]? = some pt_r212 := rfl
  unfold fD_readWalk_j120 at hx
  refine ev_ls (L' := [u0, u1, u2, none, u4, u5, none, some (.int a7)]) (st' := [.int a7, .int (b2i a0t), .ref (g + (7 + p1t))]) (pc' := 122) hk (.iload 7) 2 rfl rfl rfl rfl ?_
  obtain ⟨v8, G7, hc9, hx⟩ := bnd2_some hx
  refine ev_cv 297 2 [.int v8] 125 hk rfl rfl rfl rfl (lk_spot hg hp1t gup_same) rfl rfl rfl (rP_setOut hg hp1t hc9) rfl rfl rfl rfl ?_
  refine ev_op (st' := []) (pc' := 126) hk (.pop) 1 rfl rfl rfl ?_
  refine ev_op (st' := [.int 1]) (pc' := 127) hk (.iconst 1) 1 rfl rfl rfl ?_
  cases hx
  obtain rfl := hM
  exact ev_retZ true rfl hk rfl rfl
set_option maxRecDepth 4000 in
theorem rD_readWalk_j81 {S : Nat} {xs : Nat → Int32} {I : zI} {C : zC} {Y : Nat → Int32} {Γ : Nat → zG} {D : zD} {O : Nat → Int32} {M : zM} {ou : Nat → Int64} {od : Nat → UInt64} {j : Nat} {g : Nat} {G : zG} {a4 : Int32} {a5 : Int64} {y : (Option Value ⊕ String) × px_H} {x : Bool × zI × zG} (hg : isG g) (hx : fD_readWalk_j81 I G a4 a5 = some x) (hM : (fun X : Bool × zI × zG => y = (((.inl (some (.int (b2i X.1)))), (zH X.2.1 C Y (gup Γ g X.2.2) D O M ou od j)) : (Option Value ⊕ String) × px_H)) x) (u2 : Option Value) : Ev S xs 212 81 [some (.ref 1), some (.ref g), u2, none, some (.int a4), some (.long a5), none, none] [] (zH I C Y (gup Γ g G) D O M ou od j) y := by
  have hk : pt_mt[212]? = some pt_r212 := rfl
  unfold fD_readWalk_j81 at hx
  refine ev_ls (L' := [some (.ref 1), some (.ref g), u2, none, some (.int a4), some (.long a5), none, none]) (st' := [.ref 1]) (pc' := 82) hk (.aload_n 0) 1 rfl rfl rfl rfl ?_
  refine ev_op (st' := [.int 0, .ref 1]) (pc' := 83) hk (.iconst 0) 1 rfl rfl rfl ?_
  refine ev_op (st' := [.int 359, .int 0, .ref 1]) (pc' := 86) hk (.sipush 359) 3 rfl rfl rfl ?_
  obtain ⟨v4, I3, hc5, hx⟩ := bnd2_some hx
  refine ev_cv 263 2 [.int v4] 89 hk rfl rfl rfl rfl lk_input rfl rfl rfl (rI_expectNumber hc5) rfl rfl rfl rfl ?_
  refine ev_ls (L' := [some (.ref 1), some (.ref g), u2, none, some (.int a4), some (.long a5), none, some (.int v4)]) (st' := []) (pc' := 91) hk (.istore 7) 2 rfl rfl rfl rfl ?_
  refine ev_ls (L' := [some (.ref 1), some (.ref g), u2, none, some (.int a4), some (.long a5), none, some (.int v4)]) (st' := [.int v4]) (pc' := 93) hk (.iload 7) 2 rfl rfl rfl rfl ?_
  refine ev_op (st' := [.int (-1), .int v4]) (pc' := 94) hk (.iconst (-1)) 1 rfl rfl rfl ?_
  refine ev_d2 99 97 hk rfl rfl rfl rfl (px_cne hx (fun hc hx => ?_) (fun hc hx => ?_))
  · refine ev_ls (L' := [some (.ref 1), some (.ref g), u2, none, some (.int a4), some (.long a5), none, some (.int v4)]) (st' := [.ref g]) (pc' := 100) hk (.aload_n 1) 1 rfl rfl rfl rfl ?_
    refine ev_gf (.ref (g + 6)) 103 hk rfl rfl (lk_globe hg gup_same) rfl rfl ?_
    refine ev_ls (L' := [some (.ref 1), some (.ref g), u2, none, some (.int a4), some (.long a5), none, some (.int v4)]) (st' := [.int a4, .ref (g + 6)]) (pc' := 105) hk (.iload 4) 2 rfl rfl rfl rfl ?_
    obtain ⟨p6, hp6, hx⟩ := bnd_some hx
    have hpp6 := rix_lt hp6
    refine ev_aal (g + (7 + p6)) hp6 106 hk rfl (lk_spots hg gup_same) (by decide) (lk_sp hpp6) rfl ?_
    refine ev_ls (L' := [some (.ref 1), some (.ref g), u2, none, some (.int a4), some (.long a5), none, some (.int v4)]) (st' := [.long a5, .ref (g + (7 + p6))]) (pc' := 108) hk (.lload 5) 2 rfl rfl rfl rfl ?_
    refine ev_ldJ 1700885364 111 hk rfl rfl rfl ?_
    refine ev_op (st' := [.int (lg_cmp a5 1700885364), .ref (g + (7 + p6))]) (pc' := 112) hk (.lcmp) 1 rfl rfl rfl ?_
    refine ev_d1 119 115 hk rfl rfl rfl rfl (px_lne hx (fun hc hx => ?_) (fun hc hx => ?_))
    · refine ev_op (st' := [.int 1, .ref (g + (7 + p6))]) (pc' := 120) hk (.iconst 1) 1 rfl rfl rfl ?_
      exact rD_readWalk_j120 hg hpp6 hx hM (some (.ref 1)) rfl (some (.ref g)) rfl u2 (some (.int a4)) rfl (some (.long a5))
    · refine ev_op (st' := [.int 0, .ref (g + (7 + p6))]) (pc' := 116) hk (.iconst 0) 1 rfl rfl rfl ?_
      refine ev_jp (pc' := 120) (st' := [.int 0, .ref (g + (7 + p6))]) hk (.goto 4) 3 rfl rfl rfl rfl rfl ?_
      exact rD_readWalk_j120 hg hpp6 hx hM (some (.ref 1)) rfl (some (.ref g)) rfl u2 (some (.int a4)) rfl (some (.long a5))
  · refine ev_op (st' := [.int 0]) (pc' := 98) hk (.iconst 0) 1 rfl rfl rfl ?_
    cases hx
    obtain rfl := hM
    exact ev_retZ false rfl hk rfl rfl
set_option maxRecDepth 4000 in
theorem rD_readWalk {S : Nat} {xs : Nat → Int32} {I : zI} {C : zC} {Y : Nat → Int32} {Γ : Nat → zG} {D : zD} {O : Nat → Int32} {M : zM} {ou : Nat → Int64} {od : Nat → UInt64} {j : Nat} {g : Nat} {G : zG}  {X : Bool × zI × zG}  (hg : isG g) (hx : fD_readWalk I G = some X) : Ev S xs 212 0 [some (.ref 1), some (.ref g), none, none, none, none, none, none] [] (zH I C Y (gup Γ g G) D O M ou od j) (((.inl (some (.int (b2i X.1)))), (zH X.2.1 C Y (gup Γ g X.2.2) D O M ou od j)) : (Option Value ⊕ String) × px_H) := by
  generalize hM : (((.inl (some (.int (b2i X.1)))), (zH X.2.1 C Y (gup Γ g X.2.2) D O M ou od j)) : (Option Value ⊕ String) × px_H) = y
  replace hM := hM.symm
  have hk : pt_mt[212]? = some pt_r212 := rfl
  unfold fD_readWalk at hx
  refine ev_ls (L' := [some (.ref 1), some (.ref g), none, none, none, none, none, none]) (st' := [.ref 1]) (pc' := 1) hk (.aload_n 0) 1 rfl rfl rfl rfl ?_
  obtain ⟨v11, I10, hc12, hx⟩ := bnd2_some hx
  refine ev_cv 265 0 [.long v11] 4 hk rfl rfl rfl rfl lk_input rfl rfl rfl (rI_expectWord hc12) rfl rfl rfl rfl ?_
  refine ev_ls (L' := [some (.ref 1), some (.ref g), some (.long v11), none, none, none, none, none]) (st' := []) (pc' := 5) hk (.lstore_n 2) 1 rfl rfl rfl rfl ?_
  refine ev_ls (L' := [some (.ref 1), some (.ref g), some (.long v11), none, none, none, none, none]) (st' := [.long v11]) (pc' := 6) hk (.lload_n 2) 1 rfl rfl rfl rfl ?_
  refine ev_op (st' := [.long 0, .long v11]) (pc' := 7) hk (.lconst 0) 1 rfl rfl rfl ?_
  refine ev_op (st' := [.int (lg_cmp v11 0)]) (pc' := 8) hk (.lcmp) 1 rfl rfl rfl ?_
  refine ev_d1 13 11 hk rfl rfl rfl rfl (px_lne hx (fun hc hx => ?_) (fun hc hx => ?_))
  · refine ev_ls (L' := [some (.ref 1), some (.ref g), some (.long v11), none, none, none, none, none]) (st' := [.ref g]) (pc' := 14) hk (.aload_n 1) 1 rfl rfl rfl rfl ?_
    refine ev_ls (L' := [some (.ref 1), some (.ref g), some (.long v11), none, none, none, none, none]) (st' := [.long v11, .ref g]) (pc' := 15) hk (.lload_n 2) 1 rfl rfl rfl rfl ?_
    obtain ⟨v13, hc14, hx⟩ := bnd_some hx
    refine ev_cv 249 1 [.int v13] 18 hk rfl rfl rfl rfl (lk_globe hg gup_same) rfl rfl rfl (rG_spotNamed hg hc14) rfl rfl rfl rfl ?_
    refine ev_ls (L' := [some (.ref 1), some (.ref g), some (.long v11), none, some (.int v13), none, none, none]) (st' := []) (pc' := 20) hk (.istore 4) 2 rfl rfl rfl rfl ?_
    refine ev_ls (L' := [some (.ref 1), some (.ref g), some (.long v11), none, some (.int v13), none, none, none]) (st' := [.int v13]) (pc' := 22) hk (.iload 4) 2 rfl rfl rfl rfl ?_
    refine ev_op (st' := [.int (-1), .int v13]) (pc' := 23) hk (.iconst (-1)) 1 rfl rfl rfl ?_
    refine ev_d2 32 26 hk rfl rfl rfl rfl (px_cne hx (fun hc hx => ?_) (fun hc hx => ?_))
    · refine ev_ls (L' := [some (.ref 1), some (.ref g), some (.long v11), none, some (.int v13), none, none, none]) (st' := [.ref g]) (pc' := 33) hk (.aload_n 1) 1 rfl rfl rfl rfl ?_
      refine ev_gf (.ref (g + 6)) 36 hk rfl rfl (lk_globe hg gup_same) rfl rfl ?_
      refine ev_ls (L' := [some (.ref 1), some (.ref g), some (.long v11), none, some (.int v13), none, none, none]) (st' := [.int v13, .ref (g + 6)]) (pc' := 38) hk (.iload 4) 2 rfl rfl rfl rfl ?_
      obtain ⟨p15, hp15, hx⟩ := bnd_some hx
      have hpp15 := rix_lt hp15
      refine ev_aal (g + (7 + p15)) hp15 39 hk rfl (lk_spots hg gup_same) (by decide) (lk_sp hpp15) rfl ?_
      refine ev_gf (.int (b2i (gB G (7 + p15)))) 42 hk rfl rfl (lk_spot hg hpp15 gup_same) rfl rfl ?_
      refine ev_d1 51 45 hk rfl rfl rfl rfl (px_bne hx (fun hc hx => ?_) (fun hc hx => ?_))
      · refine ev_ls (L' := [some (.ref 1), some (.ref g), some (.long v11), none, some (.int v13), none, none, none]) (st' := [.ref 1]) (pc' := 52) hk (.aload_n 0) 1 rfl rfl rfl rfl ?_
        obtain ⟨v17, I16, hc18, hx⟩ := bnd2_some hx
        refine ev_cv 265 0 [.long v17] 55 hk rfl rfl rfl rfl lk_input rfl rfl rfl (rI_expectWord hc18) rfl rfl rfl rfl ?_
        refine ev_ls (L' := [some (.ref 1), some (.ref g), some (.long v11), none, some (.int v13), some (.long v17), none, none]) (st' := []) (pc' := 57) hk (.lstore 5) 2 rfl rfl rfl rfl ?_
        refine ev_ls (L' := [some (.ref 1), some (.ref g), some (.long v11), none, some (.int v13), some (.long v17), none, none]) (st' := [.long v17]) (pc' := 59) hk (.lload 5) 2 rfl rfl rfl rfl ?_
        refine ev_ldJ 1700885364 62 hk rfl rfl rfl ?_
        refine ev_op (st' := [.int (lg_cmp v17 1700885364)]) (pc' := 63) hk (.lcmp) 1 rfl rfl rfl ?_
        refine ev_d1 81 66 hk rfl rfl rfl rfl (px_leq hx (fun hc hx => ?_) (fun hc hx => ?_))
        · exact rD_readWalk_j81 hg hx hM (some (.long v11))
        · refine ev_ls (L' := [some (.ref 1), some (.ref g), some (.long v11), none, some (.int v13), some (.long v17), none, none]) (st' := [.long v17]) (pc' := 68) hk (.lload 5) 2 rfl rfl rfl rfl ?_
          refine ev_ldJ 2003137396 71 hk rfl rfl rfl ?_
          refine ev_op (st' := [.int (lg_cmp v17 2003137396)]) (pc' := 72) hk (.lcmp) 1 rfl rfl rfl ?_
          refine ev_d1 81 75 hk rfl rfl rfl rfl (px_leq hx (fun hc hx => ?_) (fun hc hx => ?_))
          · exact rD_readWalk_j81 hg hx hM (some (.long v11))
          · refine ev_ls (L' := [some (.ref 1), some (.ref g), some (.long v11), none, some (.int v13), some (.long v17), none, none]) (st' := [.ref 1]) (pc' := 76) hk (.aload_n 0) 1 rfl rfl rfl rfl ?_
            refine ev_op (st' := [.int 1, .ref 1]) (pc' := 77) hk (.iconst 1) 1 rfl rfl rfl ?_
            obtain ⟨v20, I19, hc21, hx⟩ := bnd2_some hx
            refine ev_cv 266 1 [.int (b2i v20)] 80 hk rfl rfl rfl rfl lk_input rfl rfl rfl (rI_fail hc21) rfl rfl rfl rfl ?_
            cases hx
            obtain rfl := hM
            exact ev_retZ _ rfl hk rfl rfl
      · refine ev_ls (L' := [some (.ref 1), some (.ref g), some (.long v11), none, some (.int v13), none, none, none]) (st' := [.ref 1]) (pc' := 46) hk (.aload_n 0) 1 rfl rfl rfl rfl ?_
        refine ev_op (st' := [.int 5, .ref 1]) (pc' := 47) hk (.iconst 5) 1 rfl rfl rfl ?_
        obtain ⟨v23, I22, hc24, hx⟩ := bnd2_some hx
        refine ev_cv 266 1 [.int (b2i v23)] 50 hk rfl rfl rfl rfl lk_input rfl rfl rfl (rI_fail hc24) rfl rfl rfl rfl ?_
        cases hx
        obtain rfl := hM
        exact ev_retZ _ rfl hk rfl rfl
    · refine ev_ls (L' := [some (.ref 1), some (.ref g), some (.long v11), none, some (.int v13), none, none, none]) (st' := [.ref 1]) (pc' := 27) hk (.aload_n 0) 1 rfl rfl rfl rfl ?_
      refine ev_op (st' := [.int 4, .ref 1]) (pc' := 28) hk (.iconst 4) 1 rfl rfl rfl ?_
      obtain ⟨v26, I25, hc27, hx⟩ := bnd2_some hx
      refine ev_cv 266 1 [.int (b2i v26)] 31 hk rfl rfl rfl rfl lk_input rfl rfl rfl (rI_fail hc27) rfl rfl rfl rfl ?_
      cases hx
      obtain rfl := hM
      exact ev_retZ _ rfl hk rfl rfl
  · refine ev_op (st' := [.int 0]) (pc' := 12) hk (.iconst 0) 1 rfl rfl rfl ?_
    cases hx
    obtain rfl := hM
    exact ev_retZ false rfl hk rfl rfl

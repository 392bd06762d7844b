/-! THE ROWS of the methods: each function is what the pure machine does (7) -/
set_option maxRecDepth 2000 in
theorem rw_nameByte {S : Nat} {xs : Nat → Int32} {I : zI} {C : zC} {Y : Nat → Int32} {Γ : Nat → zG} {D : zD} {O : Nat → Int32} {M : zM} {ou : Nat → Int64} {od : Nat → UInt64} {j : Nat} {a1 : Int32} {a2 : Int32} {X : Int32 × (Nat → Int64) × Nat}   (hx : fw_nameByte Γ ou j a1 a2 = some X) : Ev S xs 395 0 [some (.ref 0), some (.int a1), some (.int a2), some (.ref 261), none] [] (zH I C Y Γ D O M ou od j) (((.inl (some (.int X.1))), (zH I C Y Γ D O M X.2.1 od X.2.2)) : (Option Value ⊕ String) × px_H) := by
  generalize hM : (((.inl (some (.int X.1))), (zH I C Y Γ D O M X.2.1 od X.2.2)) : (Option Value ⊕ String) × px_H) = y
  replace hM := hM.symm
  have hk : pt_mt[395]? = some pt_r395 := rfl
  unfold fw_nameByte at hx
  refine ev_ls (L' := [some (.ref 0), some (.int a1), some (.int a2), some (.ref 261), none]) (st' := [.ref 261]) (pc' := 1) hk (.aload_n 3) 1 rfl rfl rfl rfl ?_
  refine ev_op (st' := [.int 0, .ref 261]) (pc' := 2) hk (.iconst 0) 1 rfl rfl rfl ?_
  refine ev_ls (L' := [some (.ref 0), some (.int a1), some (.int a2), some (.ref 261), none]) (st' := [.ref 0, .int 0, .ref 261]) (pc' := 3) hk (.aload_n 0) 1 rfl rfl rfl rfl ?_
  refine ev_ls (L' := [some (.ref 0), some (.int a1), some (.int a2), some (.ref 261), none]) (st' := [.int a1, .ref 0, .int 0, .ref 261]) (pc' := 4) hk (.iload_n 1) 1 rfl rfl rfl rfl ?_
  refine ev_ls (L' := [some (.ref 0), some (.int a1), some (.int a2), some (.ref 261), none]) (st' := [.int a2, .int a1, .ref 0, .int 0, .ref 261]) (pc' := 5) hk (.iload_n 2) 1 rfl rfl rfl rfl ?_
  rcases bnx_some hx with ⟨v4, hc2, hx⟩ | ⟨E3, hc2, hx⟩
  · skip
    refine ev_cv 338 2 [.int v4, .int 0, .ref 261] 8 hk rfl rfl rfl rfl lk_dh rfl rfl rfl (rX_nameByte hc2) rfl rfl rfl rfl ?_
    refine ev_op (st' := [.long (Int32.toInt64 v4), .int 0, .ref 261]) (pc' := 9) hk (.i2l) 1 rfl rfl rfl ?_
    obtain ⟨ou5, hou5, hx⟩ := bnd_some hx
    have hou5 := Option.some.inj hou5
    refine ev_las (A := (vp_updL ou 0 (Int32.toInt64 v4))) rfl 10 hk rfl lk_ou (sa_ou hou5) rfl ?_
    refine ev_jp (pc' := 17) (st' := []) hk (.goto 7) 3 rfl rfl rfl rfl rfl ?_
    refine ev_op (st' := [.int 0]) (pc' := 18) hk (.iconst 0) 1 rfl rfl rfl ?_
    cases hx
    obtain rfl := hM
    exact ev_retI hk rfl rfl
  · skip
    rcases ite_or hx with ⟨hE, hx⟩ | ⟨hE, hx⟩
    · subst hE
      refine ev_cvC 338 2 15 hk rfl rfl rfl rfl lk_dh rfl rfl rfl (t := 13) (by decide +kernel) (L' := [some (.ref 0), some (.int a1), some (.int a2), some (.ref 261), none]) rfl (rX_nameByte hc2) rfl rfl ?_
      refine ev_op (st' := [.int 1]) (pc' := 16) hk (.iconst 1) 1 rfl rfl rfl ?_
      cases hx
      obtain rfl := hM
      exact ev_retI hk rfl rfl
    cases hx
set_option maxRecDepth 2000 in
theorem rM_letterIn {S : Nat} {xs : Nat → Int32} {I : zI} {C : zC} {Y : Nat → Int32} {Γ : Nat → zG} {D : zD} {O : Nat → Int32} {M : zM} {ou : Nat → Int64} {od : Nat → UInt64} {j : Nat} {a0 : Int64} {a2 : Int32} {X : Int32}   (hx : fM_letterIn a0 a2 = some X) : Ev S xs 120 0 [some (.long a0), none, some (.int a2)] [] (zH I C Y Γ D O M ou od j) (((.inl (some (.int X))), (zH I C Y Γ D O M ou od j)) : (Option Value ⊕ String) × px_H) := by
  generalize hM : (((.inl (some (.int X))), (zH I C Y Γ D O M ou od j)) : (Option Value ⊕ String) × px_H) = y
  replace hM := hM.symm
  have hk : pt_mt[120]? = some pt_r120 := rfl
  unfold fM_letterIn at hx
  refine ev_op (st' := [.int 96]) (pc' := 2) hk (.bipush 96) 2 rfl rfl rfl ?_
  refine ev_ls (L' := [some (.long a0), none, some (.int a2)]) (st' := [.long a0, .int 96]) (pc' := 3) hk (.lload_n 0) 1 rfl rfl rfl rfl ?_
  refine ev_op (st' := [.int 5, .long a0, .int 96]) (pc' := 4) hk (.iconst 5) 1 rfl rfl rfl ?_
  refine ev_ls (L' := [some (.long a0), none, some (.int a2)]) (st' := [.long a0, .int 5, .long a0, .int 96]) (pc' := 5) hk (.lload_n 0) 1 rfl rfl rfl rfl ?_
  obtain ⟨v1, hc2, hx⟩ := bnd_some hx
  refine ev_cs 119 1 [.int v1, .int 5, .long a0, .int 96] 8 hk rfl rfl (by decide) rfl rfl rfl (rM_lengthOf hc2) rfl rfl rfl rfl ?_
  refine ev_op (st' := [.int 1, .int v1, .int 5, .long a0, .int 96]) (pc' := 9) hk (.iconst 1) 1 rfl rfl rfl ?_
  refine ev_op (st' := [.int (v1 - 1), .int 5, .long a0, .int 96]) (pc' := 10) hk (.isub) 1 rfl rfl rfl ?_
  refine ev_ls (L' := [some (.long a0), none, some (.int a2)]) (st' := [.int a2, .int (v1 - 1), .int 5, .long a0, .int 96]) (pc' := 11) hk (.iload_n 2) 1 rfl rfl rfl rfl ?_
  refine ev_op (st' := [.int ((v1 - 1) - a2), .int 5, .long a0, .int 96]) (pc' := 12) hk (.isub) 1 rfl rfl rfl ?_
  refine ev_op (st' := [.int (5 * ((v1 - 1) - a2)), .long a0, .int 96]) (pc' := 13) hk (.imul) 1 rfl rfl rfl ?_
  refine ev_op (st' := [.long (a0 >>> (Int32.toInt64 (5 * ((v1 - 1) - a2)) &&& 63)), .int 96]) (pc' := 14) hk (.lshr) 1 rfl rfl rfl ?_
  refine ev_ldJ 31 17 hk rfl rfl rfl ?_
  refine ev_op (st' := [.long ((a0 >>> (Int32.toInt64 (5 * ((v1 - 1) - a2)) &&& 63)) &&& 31), .int 96]) (pc' := 18) hk (.land) 1 rfl rfl rfl ?_
  refine ev_op (st' := [.int (Int64.toInt32 ((a0 >>> (Int32.toInt64 (5 * ((v1 - 1) - a2)) &&& 63)) &&& 31)), .int 96]) (pc' := 19) hk (.l2i) 1 rfl rfl rfl ?_
  refine ev_op (st' := [.int (96 + (Int64.toInt32 ((a0 >>> (Int32.toInt64 (5 * ((v1 - 1) - a2)) &&& 63)) &&& 31)))]) (pc' := 20) hk (.iadd) 1 rfl rfl rfl ?_
  cases hx
  obtain rfl := hM
  exact ev_retI hk rfl rfl
set_option maxRecDepth 2000 in
theorem rM_letterOf {S : Nat} {xs : Nat → Int32} {I : zI} {C : zC} {Y : Nat → Int32} {Γ : Nat → zG} {D : zD} {O : Nat → Int32} {M : zM} {ou : Nat → Int64} {od : Nat → UInt64} {j : Nat} {a1 : Int64} {a3 : Int32} {X : Int32}   (hx : fM_letterOf a1 a3 = some X) : Ev S xs 121 0 [some (.ref 247), some (.long a1), none, some (.int a3)] [] (zH I C Y Γ D O M ou od j) (((.inl (some (.int X))), (zH I C Y Γ D O M ou od j)) : (Option Value ⊕ String) × px_H) := by
  generalize hM : (((.inl (some (.int X))), (zH I C Y Γ D O M ou od j)) : (Option Value ⊕ String) × px_H) = y
  replace hM := hM.symm
  have hk : pt_mt[121]? = some pt_r121 := rfl
  unfold fM_letterOf at hx
  refine ev_ls (L' := [some (.ref 247), some (.long a1), none, some (.int a3)]) (st' := [.int a3]) (pc' := 1) hk (.iload_n 3) 1 rfl rfl rfl rfl ?_
  refine ev_op (st' := [.long (Int32.toInt64 a3)]) (pc' := 2) hk (.i2l) 1 rfl rfl rfl ?_
  refine ev_op (st' := [.long 0, .long (Int32.toInt64 a3)]) (pc' := 3) hk (.lconst 0) 1 rfl rfl rfl ?_
  refine ev_ls (L' := [some (.ref 247), some (.long a1), none, some (.int a3)]) (st' := [.long a1, .long 0, .long (Int32.toInt64 a3)]) (pc' := 4) hk (.lload_n 1) 1 rfl rfl rfl rfl ?_
  obtain ⟨v1, hc2, hx⟩ := bnd_some hx
  refine ev_cs 119 1 [.int v1, .long 0, .long (Int32.toInt64 a3)] 7 hk rfl rfl (by decide) rfl rfl rfl (rM_lengthOf hc2) rfl rfl rfl rfl ?_
  refine ev_op (st' := [.int 1, .int v1, .long 0, .long (Int32.toInt64 a3)]) (pc' := 8) hk (.iconst 1) 1 rfl rfl rfl ?_
  refine ev_op (st' := [.int (v1 - 1), .long 0, .long (Int32.toInt64 a3)]) (pc' := 9) hk (.isub) 1 rfl rfl rfl ?_
  refine ev_op (st' := [.long (Int32.toInt64 (v1 - 1)), .long 0, .long (Int32.toInt64 a3)]) (pc' := 10) hk (.i2l) 1 rfl rfl rfl ?_
  refine ev_cs 86 3 [.int (b2i (fM_isIn (Int32.toInt64 a3) 0 (Int32.toInt64 (v1 - 1))))] 13 hk rfl rfl (by decide) rfl rfl rfl (rM_isIn rfl) rfl rfl rfl rfl ?_
  refine ev_d1 24 16 hk rfl rfl rfl rfl (px_beq hx (fun hc hx => ?_) (fun hc hx => ?_))
  · refine ev_op (st' := [.int (-1)]) (pc' := 25) hk (.iconst (-1)) 1 rfl rfl rfl ?_
    cases hx
    obtain rfl := hM
    exact ev_retI hk rfl rfl
  · refine ev_ls (L' := [some (.ref 247), some (.long a1), none, some (.int a3)]) (st' := [.long a1]) (pc' := 17) hk (.lload_n 1) 1 rfl rfl rfl rfl ?_
    refine ev_ls (L' := [some (.ref 247), some (.long a1), none, some (.int a3)]) (st' := [.int a3, .long a1]) (pc' := 18) hk (.iload_n 3) 1 rfl rfl rfl rfl ?_
    obtain ⟨v3, hc4, hx⟩ := bnd_some hx
    refine ev_cs 120 2 [.int v3] 21 hk rfl rfl (by decide) rfl rfl rfl (rM_letterIn hc4) rfl rfl rfl rfl ?_
    refine ev_jp (pc' := 25) (st' := [.int v3]) hk (.goto 4) 3 rfl rfl rfl rfl rfl ?_
    cases hx
    obtain rfl := hM
    exact ev_retI hk rfl rfl
set_option maxRecDepth 2000 in
theorem rM_nameByte {S : Nat} {xs : Nat → Int32} {I : zI} {C : zC} {Y : Nat → Int32} {Γ : Nat → zG} {D : zD} {O : Nat → Int32} {M : zM} {ou : Nat → Int64} {od : Nat → UInt64} {j : Nat} {a1 : Int32} {a2 : Int32} {X : Int32 × zM}   (hx : fM_nameByte M a1 a2 = some X) : Ev S xs 141 0 [some (.ref 247), some (.int a1), some (.int a2)] [] (zH I C Y Γ D O M ou od j) (((.inl (some (.int X.1))), (zH I C Y Γ D O X.2 ou od j)) : (Option Value ⊕ String) × px_H) := by
  generalize hM : (((.inl (some (.int X.1))), (zH I C Y Γ D O X.2 ou od j)) : (Option Value ⊕ String) × px_H) = y
  replace hM := hM.symm
  have hk : pt_mt[141]? = some pt_r141 := rfl
  unfold fM_nameByte at hx
  refine ev_ls (L' := [some (.ref 247), some (.int a1), some (.int a2)]) (st' := [.ref 247]) (pc' := 1) hk (.aload_n 0) 1 rfl rfl rfl rfl ?_
  refine ev_ls (L' := [some (.ref 247), some (.int a1), some (.int a2)]) (st' := [.ref 247, .ref 247]) (pc' := 2) hk (.aload_n 0) 1 rfl rfl rfl rfl ?_
  refine ev_ls (L' := [some (.ref 247), some (.int a1), some (.int a2)]) (st' := [.int a1, .ref 247, .ref 247]) (pc' := 3) hk (.iload_n 1) 1 rfl rfl rfl rfl ?_
  refine ev_cv 92 1 [.int (b2i (fM_isSpot M a1)), .ref 247] 6 hk rfl rfl rfl rfl lk_model rfl rfl rfl (rM_isSpot rfl) rfl rfl rfl rfl ?_
  obtain ⟨v2, M1, hc3, hx⟩ := bnd2_some hx
  refine ev_cv 59 1 [.int (b2i v2)] 9 hk rfl rfl rfl rfl lk_model rfl rfl rfl (rM_goes hc3) rfl rfl rfl rfl ?_
  refine ev_d1 25 12 hk rfl rfl rfl rfl (px_beq hx (fun hc hx => ?_) (fun hc hx => ?_))
  · refine ev_op (st' := [.int 0]) (pc' := 26) hk (.iconst 0) 1 rfl rfl rfl ?_
    cases hx
    obtain rfl := hM
    exact ev_retI hk rfl rfl
  · refine ev_ls (L' := [some (.ref 247), some (.int a1), some (.int a2)]) (st' := [.ref 247]) (pc' := 13) hk (.aload_n 0) 1 rfl rfl rfl rfl ?_
    refine ev_ls (L' := [some (.ref 247), some (.int a1), some (.int a2)]) (st' := [.ref 247, .ref 247]) (pc' := 14) hk (.aload_n 0) 1 rfl rfl rfl rfl ?_
    refine ev_ls (L' := [some (.ref 247), some (.int a1), some (.int a2)]) (st' := [.int a1, .ref 247, .ref 247]) (pc' := 15) hk (.iload_n 1) 1 rfl rfl rfl rfl ?_
    obtain ⟨v4, hc5, hx⟩ := bnd_some hx
    refine ev_cv 142 1 [.long v4, .ref 247] 18 hk rfl rfl rfl rfl lk_model rfl rfl rfl (rM_nameOf hc5) rfl rfl rfl rfl ?_
    refine ev_ls (L' := [some (.ref 247), some (.int a1), some (.int a2)]) (st' := [.int a2, .long v4, .ref 247]) (pc' := 19) hk (.iload_n 2) 1 rfl rfl rfl rfl ?_
    obtain ⟨v6, hc7, hx⟩ := bnd_some hx
    refine ev_cv 121 2 [.int v6] 22 hk rfl rfl rfl rfl lk_model rfl rfl rfl (rM_letterOf hc7) rfl rfl rfl rfl ?_
    refine ev_jp (pc' := 26) (st' := [.int v6]) hk (.goto 4) 3 rfl rfl rfl rfl rfl ?_
    cases hx
    obtain rfl := hM
    exact ev_retI hk rfl rfl
set_option maxRecDepth 2000 in
theorem rX_spotCount {S : Nat} {xs : Nat → Int32} {I : zI} {C : zC} {Y : Nat → Int32} {Γ : Nat → zG} {D : zD} {O : Nat → Int32} {M : zM} {ou : Nat → Int64} {od : Nat → UInt64} {j : Nat}  {X : Int32}   (hx : fX_spotCount Γ = X) : Ev S xs 356 0 [some (.ref 0)] [] (zH I C Y Γ D O M ou od j) (((.inl (some (.int X))), (zH I C Y Γ D O M ou od j)) : (Option Value ⊕ String) × px_H) := by
  generalize hM : (((.inl (some (.int X))), (zH I C Y Γ D O M ou od j)) : (Option Value ⊕ String) × px_H) = y
  replace hM := hM.symm
  have hk : pt_mt[356]? = some pt_r356 := rfl
  unfold fX_spotCount at hx
  refine ev_ls (L' := [some (.ref 0)]) (st' := [.ref 0]) (pc' := 1) hk (.aload_n 0) 1 rfl rfl rfl rfl ?_
  refine ev_gf (.ref 10) 4 hk rfl rfl lk_dh rfl rfl ?_
  refine ev_gf (.int (gF (Γ 10) 0 4)) 7 hk rfl rfl (lk_globe isG_10 rfl) rfl rfl ?_
  cases hx
  obtain rfl := hM
  exact ev_retI hk rfl rfl
set_option maxRecDepth 2000 in
theorem rM_spotCount {S : Nat} {xs : Nat → Int32} {I : zI} {C : zC} {Y : Nat → Int32} {Γ : Nat → zG} {D : zD} {O : Nat → Int32} {M : zM} {ou : Nat → Int64} {od : Nat → UInt64} {j : Nat}  {X : Int32 × zM}   (hx : fM_spotCount M = some X) : Ev S xs 165 0 [some (.ref 247)] [] (zH I C Y Γ D O M ou od j) (((.inl (some (.int X.1))), (zH I C Y Γ D O X.2 ou od j)) : (Option Value ⊕ String) × px_H) := by
  generalize hM : (((.inl (some (.int X.1))), (zH I C Y Γ D O X.2 ou od j)) : (Option Value ⊕ String) × px_H) = y
  replace hM := hM.symm
  have hk : pt_mt[165]? = some pt_r165 := rfl
  unfold fM_spotCount at hx
  refine ev_ls (L' := [some (.ref 247)]) (st' := [.ref 247]) (pc' := 1) hk (.aload_n 0) 1 rfl rfl rfl rfl ?_
  refine ev_ls (L' := [some (.ref 247)]) (st' := [.ref 247, .ref 247]) (pc' := 2) hk (.aload_n 0) 1 rfl rfl rfl rfl ?_
  refine ev_gf (.ref 249) 5 hk rfl rfl lk_model rfl rfl ?_
  refine ev_op (st' := [.int 1, .ref 249, .ref 247]) (pc' := 6) hk (.iconst 1) 1 rfl rfl rfl ?_
  refine ev_ial (v := ((mA M 249) 1)) rfl 7 hk rfl lk_m249 rfl ?_
  obtain ⟨v2, M1, hc3, hx⟩ := bnd2_some hx
  refine ev_cv 184 1 [.int v2] 10 hk rfl rfl rfl rfl lk_model rfl rfl rfl (rM_told hc3) rfl rfl rfl rfl ?_
  cases hx
  obtain rfl := hM
  exact ev_retI hk rfl rfl
set_option maxRecDepth 2000 in
theorem rX_clock {S : Nat} {xs : Nat → Int32} {I : zI} {C : zC} {Y : Nat → Int32} {Γ : Nat → zG} {D : zD} {O : Nat → Int32} {M : zM} {ou : Nat → Int64} {od : Nat → UInt64} {j : Nat}  {X : Int32}   (hx : fX_clock Γ = X) : Ev S xs 305 0 [some (.ref 0)] [] (zH I C Y Γ D O M ou od j) (((.inl (some (.int X))), (zH I C Y Γ D O M ou od j)) : (Option Value ⊕ String) × px_H) := by
  generalize hM : (((.inl (some (.int X))), (zH I C Y Γ D O M ou od j)) : (Option Value ⊕ String) × px_H) = y
  replace hM := hM.symm
  have hk : pt_mt[305]? = some pt_r305 := rfl
  unfold fX_clock at hx
  refine ev_ls (L' := [some (.ref 0)]) (st' := [.ref 0]) (pc' := 1) hk (.aload_n 0) 1 rfl rfl rfl rfl ?_
  refine ev_gf (.ref 10) 4 hk rfl rfl lk_dh rfl rfl ?_
  refine ev_gf (.int (gF (Γ 10) 0 2)) 7 hk rfl rfl (lk_globe isG_10 rfl) rfl rfl ?_
  cases hx
  obtain rfl := hM
  exact ev_retI hk rfl rfl
set_option maxRecDepth 2000 in
theorem rM_clock {S : Nat} {xs : Nat → Int32} {I : zI} {C : zC} {Y : Nat → Int32} {Γ : Nat → zG} {D : zD} {O : Nat → Int32} {M : zM} {ou : Nat → Int64} {od : Nat → UInt64} {j : Nat}  {X : Int32 × zM}   (hx : fM_clock M = some X) : Ev S xs 33 0 [some (.ref 247)] [] (zH I C Y Γ D O M ou od j) (((.inl (some (.int X.1))), (zH I C Y Γ D O X.2 ou od j)) : (Option Value ⊕ String) × px_H) := by
  generalize hM : (((.inl (some (.int X.1))), (zH I C Y Γ D O X.2 ou od j)) : (Option Value ⊕ String) × px_H) = y
  replace hM := hM.symm
  have hk : pt_mt[33]? = some pt_r33 := rfl
  unfold fM_clock at hx
  refine ev_ls (L' := [some (.ref 247)]) (st' := [.ref 247]) (pc' := 1) hk (.aload_n 0) 1 rfl rfl rfl rfl ?_
  refine ev_ls (L' := [some (.ref 247)]) (st' := [.ref 247, .ref 247]) (pc' := 2) hk (.aload_n 0) 1 rfl rfl rfl rfl ?_
  refine ev_gf (.ref 249) 5 hk rfl rfl lk_model rfl rfl ?_
  refine ev_op (st' := [.int 4, .ref 249, .ref 247]) (pc' := 6) hk (.iconst 4) 1 rfl rfl rfl ?_
  refine ev_ial (v := ((mA M 249) 4)) rfl 7 hk rfl lk_m249 rfl ?_
  obtain ⟨v2, M1, hc3, hx⟩ := bnd2_some hx
  refine ev_cv 184 1 [.int v2] 10 hk rfl rfl rfl rfl lk_model rfl rfl rfl (rM_told hc3) rfl rfl rfl rfl ?_
  cases hx
  obtain rfl := hM
  exact ev_retI hk rfl rfl
set_option maxRecDepth 2000 in
theorem rX_hourAt {S : Nat} {xs : Nat → Int32} {I : zI} {C : zC} {Y : Nat → Int32} {Γ : Nat → zG} {D : zD} {O : Nat → Int32} {M : zM} {ou : Nat → Int64} {od : Nat → UInt64} {j : Nat} {a1 : Int32} {a2 : Int32} {X : (Int32 ⊕ String)}   (hx : fX_hourAt Γ a1 a2 = some X) : Ev S xs 318 0 [some (.ref 0), some (.int a1), some (.int a2)] [] (zH I C Y Γ D O M ou od j) (Sum.elim (fun v => ((.inl (some (.int v))), (zH I C Y Γ D O M ou od j))) (fun E => (.inr E, (zH I C Y Γ D O M ou od (j + 1)))) X : (Option Value ⊕ String) × px_H) := by
  generalize hM : (Sum.elim (fun v => ((.inl (some (.int v))), (zH I C Y Γ D O M ou od j))) (fun E => (.inr E, (zH I C Y Γ D O M ou od (j + 1)))) X : (Option Value ⊕ String) × px_H) = y
  replace hM := hM.symm
  have hk : pt_mt[318]? = some pt_r318 := rfl
  unfold fX_hourAt at hx
  refine ev_ls (L' := [some (.ref 0), some (.int a1), some (.int a2)]) (st' := [.int a1]) (pc' := 1) hk (.iload_n 1) 1 rfl rfl rfl rfl ?_
  refine ev_ls (L' := [some (.ref 0), some (.int a1), some (.int a2)]) (st' := [.int a2, .int a1]) (pc' := 2) hk (.iload_n 2) 1 rfl rfl rfl rfl ?_
  rcases bnx_some hx with ⟨⟨⟩, hc1, hx⟩ | ⟨E2, hc1, hx⟩
  · skip
    refine ev_cs 343 2 [] 5 hk rfl rfl (by decide) rfl rfl rfl (rX_needPlace hc1) rfl rfl rfl rfl ?_
    refine ev_ls (L' := [some (.ref 0), some (.int a1), some (.int a2)]) (st' := [.ref 0]) (pc' := 6) hk (.aload_n 0) 1 rfl rfl rfl rfl ?_
    refine ev_gf (.ref 10) 9 hk rfl rfl lk_dh rfl rfl ?_
    refine ev_ls (L' := [some (.ref 0), some (.int a1), some (.int a2)]) (st' := [.int a1, .ref 10]) (pc' := 10) hk (.iload_n 1) 1 rfl rfl rfl rfl ?_
    refine ev_ls (L' := [some (.ref 0), some (.int a1), some (.int a2)]) (st' := [.int a2, .int a1, .ref 10]) (pc' := 11) hk (.iload_n 2) 1 rfl rfl rfl rfl ?_
    obtain ⟨v4, hc5, hx⟩ := bnd_some hx
    refine ev_cv 236 2 [.int v4] 14 hk rfl rfl rfl rfl (lk_globe isG_10 rfl) rfl rfl rfl (ev_gs2 (rG_localHour isG_10 hc5)) rfl rfl rfl rfl ?_
    cases hx
    obtain rfl := hM
    exact ev_retI hk rfl rfl
  · skip
    cases hx
    obtain rfl := hM
    exact ev_csX 343 2 hk rfl rfl (by decide) rfl rfl rfl rfl (rX_needPlace hc1) rfl rfl
set_option maxRecDepth 2000 in
theorem rw_hourAt {S : Nat} {xs : Nat → Int32} {I : zI} {C : zC} {Y : Nat → Int32} {Γ : Nat → zG} {D : zD} {O : Nat → Int32} {M : zM} {ou : Nat → Int64} {od : Nat → UInt64} {j : Nat} {a1 : Int32} {a2 : Int32} {X : Int32 × (Nat → Int64) × Nat}   (hx : fw_hourAt Γ ou j a1 a2 = some X) : Ev S xs 381 0 [some (.ref 0), some (.int a1), some (.int a2), some (.ref 261), none] [] (zH I C Y Γ D O M ou od j) (((.inl (some (.int X.1))), (zH I C Y Γ D O M X.2.1 od X.2.2)) : (Option Value ⊕ String) × px_H) := by
  generalize hM : (((.inl (some (.int X.1))), (zH I C Y Γ D O M X.2.1 od X.2.2)) : (Option Value ⊕ String) × px_H) = y
  replace hM := hM.symm
  have hk : pt_mt[381]? = some pt_r381 := rfl
  unfold fw_hourAt at hx
  refine ev_ls (L' := [some (.ref 0), some (.int a1), some (.int a2), some (.ref 261), none]) (st' := [.ref 261]) (pc' := 1) hk (.aload_n 3) 1 rfl rfl rfl rfl ?_
  refine ev_op (st' := [.int 0, .ref 261]) (pc' := 2) hk (.iconst 0) 1 rfl rfl rfl ?_
  refine ev_ls (L' := [some (.ref 0), some (.int a1), some (.int a2), some (.ref 261), none]) (st' := [.ref 0, .int 0, .ref 261]) (pc' := 3) hk (.aload_n 0) 1 rfl rfl rfl rfl ?_
  refine ev_ls (L' := [some (.ref 0), some (.int a1), some (.int a2), some (.ref 261), none]) (st' := [.int a1, .ref 0, .int 0, .ref 261]) (pc' := 4) hk (.iload_n 1) 1 rfl rfl rfl rfl ?_
  refine ev_ls (L' := [some (.ref 0), some (.int a1), some (.int a2), some (.ref 261), none]) (st' := [.int a2, .int a1, .ref 0, .int 0, .ref 261]) (pc' := 5) hk (.iload_n 2) 1 rfl rfl rfl rfl ?_
  rcases bnx_some hx with ⟨v4, hc2, hx⟩ | ⟨E3, hc2, hx⟩
  · skip
    refine ev_cv 318 2 [.int v4, .int 0, .ref 261] 8 hk rfl rfl rfl rfl lk_dh rfl rfl rfl (rX_hourAt hc2) rfl rfl rfl rfl ?_
    refine ev_op (st' := [.long (Int32.toInt64 v4), .int 0, .ref 261]) (pc' := 9) hk (.i2l) 1 rfl rfl rfl ?_
    obtain ⟨ou5, hou5, hx⟩ := bnd_some hx
    have hou5 := Option.some.inj hou5
    refine ev_las (A := (vp_updL ou 0 (Int32.toInt64 v4))) rfl 10 hk rfl lk_ou (sa_ou hou5) rfl ?_
    refine ev_jp (pc' := 17) (st' := []) hk (.goto 7) 3 rfl rfl rfl rfl rfl ?_
    refine ev_op (st' := [.int 0]) (pc' := 18) hk (.iconst 0) 1 rfl rfl rfl ?_
    cases hx
    obtain rfl := hM
    exact ev_retI hk rfl rfl
  · skip
    rcases ite_or hx with ⟨hE, hx⟩ | ⟨hE, hx⟩
    · subst hE
      refine ev_cvC 318 2 15 hk rfl rfl rfl rfl lk_dh rfl rfl rfl (t := 13) (by decide +kernel) (L' := [some (.ref 0), some (.int a1), some (.int a2), some (.ref 261), none]) rfl (rX_hourAt hc2) rfl rfl ?_
      refine ev_op (st' := [.int 1]) (pc' := 16) hk (.iconst 1) 1 rfl rfl rfl ?_
      cases hx
      obtain rfl := hM
      exact ev_retI hk rfl rfl
    cases hx
set_option maxRecDepth 2000 in
theorem rM_hourAt {S : Nat} {xs : Nat → Int32} {I : zI} {C : zC} {Y : Nat → Int32} {Γ : Nat → zG} {D : zD} {O : Nat → Int32} {M : zM} {ou : Nat → Int64} {od : Nat → UInt64} {j : Nat} {a1 : Int32} {a2 : Int32} {X : Int32 × zM}   (hx : fM_hourAt M a1 a2 = some X) : Ev S xs 73 0 [some (.ref 247), some (.int a1), some (.int a2)] [] (zH I C Y Γ D O M ou od j) (((.inl (some (.int X.1))), (zH I C Y Γ D O X.2 ou od j)) : (Option Value ⊕ String) × px_H) := by
  generalize hM : (((.inl (some (.int X.1))), (zH I C Y Γ D O X.2 ou od j)) : (Option Value ⊕ String) × px_H) = y
  replace hM := hM.symm
  have hk : pt_mt[73]? = some pt_r73 := rfl
  unfold fM_hourAt at hx
  refine ev_ls (L' := [some (.ref 247), some (.int a1), some (.int a2)]) (st' := [.ref 247]) (pc' := 1) hk (.aload_n 0) 1 rfl rfl rfl rfl ?_
  refine ev_ls (L' := [some (.ref 247), some (.int a1), some (.int a2)]) (st' := [.int a1, .ref 247]) (pc' := 2) hk (.iload_n 1) 1 rfl rfl rfl rfl ?_
  refine ev_ls (L' := [some (.ref 247), some (.int a1), some (.int a2)]) (st' := [.int a2, .int a1, .ref 247]) (pc' := 3) hk (.iload_n 2) 1 rfl rfl rfl rfl ?_
  refine ev_cs 93 2 [.int (b2i (fM_isSpotAt a1 a2)), .ref 247] 6 hk rfl rfl (by decide) rfl rfl rfl (rM_isSpotAt rfl) rfl rfl rfl rfl ?_
  obtain ⟨v2, M1, hc3, hx⟩ := bnd2_some hx
  refine ev_cv 59 1 [.int (b2i v2)] 9 hk rfl rfl rfl rfl lk_model rfl rfl rfl (rM_goes hc3) rfl rfl rfl rfl ?_
  refine ev_d1 21 12 hk rfl rfl rfl rfl (px_beq hx (fun hc hx => ?_) (fun hc hx => ?_))
  · refine ev_op (st' := [.int 0]) (pc' := 22) hk (.iconst 0) 1 rfl rfl rfl ?_
    cases hx
    obtain rfl := hM
    exact ev_retI hk rfl rfl
  · refine ev_ls (L' := [some (.ref 247), some (.int a1), some (.int a2)]) (st' := [.ref 247]) (pc' := 13) hk (.aload_n 0) 1 rfl rfl rfl rfl ?_
    refine ev_ls (L' := [some (.ref 247), some (.int a1), some (.int a2)]) (st' := [.int a1, .ref 247]) (pc' := 14) hk (.iload_n 1) 1 rfl rfl rfl rfl ?_
    refine ev_ls (L' := [some (.ref 247), some (.int a1), some (.int a2)]) (st' := [.int a2, .int a1, .ref 247]) (pc' := 15) hk (.iload_n 2) 1 rfl rfl rfl rfl ?_
    obtain ⟨v4, hc5, hx⟩ := bnd_some hx
    refine ev_cv 123 2 [.int v4] 18 hk rfl rfl rfl rfl lk_model rfl rfl rfl (rM_localHour hc5) rfl rfl rfl rfl ?_
    refine ev_jp (pc' := 22) (st' := [.int v4]) hk (.goto 4) 3 rfl rfl rfl rfl rfl ?_
    cases hx
    obtain rfl := hM
    exact ev_retI hk rfl rfl
set_option maxRecDepth 2000 in
theorem rX_dayAt {S : Nat} {xs : Nat → Int32} {I : zI} {C : zC} {Y : Nat → Int32} {Γ : Nat → zG} {D : zD} {O : Nat → Int32} {M : zM} {ou : Nat → Int64} {od : Nat → UInt64} {j : Nat} {a1 : Int32} {a2 : Int32} {X : (Int32 ⊕ String)}   (hx : fX_dayAt Γ a1 a2 = some X) : Ev S xs 307 0 [some (.ref 0), some (.int a1), some (.int a2)] [] (zH I C Y Γ D O M ou od j) (Sum.elim (fun v => ((.inl (some (.int v))), (zH I C Y Γ D O M ou od j))) (fun E => (.inr E, (zH I C Y Γ D O M ou od (j + 1)))) X : (Option Value ⊕ String) × px_H) := by
  generalize hM : (Sum.elim (fun v => ((.inl (some (.int v))), (zH I C Y Γ D O M ou od j))) (fun E => (.inr E, (zH I C Y Γ D O M ou od (j + 1)))) X : (Option Value ⊕ String) × px_H) = y
  replace hM := hM.symm
  have hk : pt_mt[307]? = some pt_r307 := rfl
  unfold fX_dayAt at hx
  refine ev_ls (L' := [some (.ref 0), some (.int a1), some (.int a2)]) (st' := [.int a1]) (pc' := 1) hk (.iload_n 1) 1 rfl rfl rfl rfl ?_
  refine ev_ls (L' := [some (.ref 0), some (.int a1), some (.int a2)]) (st' := [.int a2, .int a1]) (pc' := 2) hk (.iload_n 2) 1 rfl rfl rfl rfl ?_
  rcases bnx_some hx with ⟨⟨⟩, hc1, hx⟩ | ⟨E2, hc1, hx⟩
  · skip
    refine ev_cs 343 2 [] 5 hk rfl rfl (by decide) rfl rfl rfl (rX_needPlace hc1) rfl rfl rfl rfl ?_
    refine ev_ls (L' := [some (.ref 0), some (.int a1), some (.int a2)]) (st' := [.ref 0]) (pc' := 6) hk (.aload_n 0) 1 rfl rfl rfl rfl ?_
    refine ev_gf (.ref 10) 9 hk rfl rfl lk_dh rfl rfl ?_
    refine ev_ls (L' := [some (.ref 0), some (.int a1), some (.int a2)]) (st' := [.int a1, .ref 10]) (pc' := 10) hk (.iload_n 1) 1 rfl rfl rfl rfl ?_
    refine ev_ls (L' := [some (.ref 0), some (.int a1), some (.int a2)]) (st' := [.int a2, .int a1, .ref 10]) (pc' := 11) hk (.iload_n 2) 1 rfl rfl rfl rfl ?_
    obtain ⟨v4, hc5, hx⟩ := bnd_some hx
    refine ev_cv 235 2 [.int v4] 14 hk rfl rfl rfl rfl (lk_globe isG_10 rfl) rfl rfl rfl (ev_gs2 (rG_localDay isG_10 hc5)) rfl rfl rfl rfl ?_
    cases hx
    obtain rfl := hM
    exact ev_retI hk rfl rfl
  · skip
    cases hx
    obtain rfl := hM
    exact ev_csX 343 2 hk rfl rfl (by decide) rfl rfl rfl rfl (rX_needPlace hc1) rfl rfl
set_option maxRecDepth 2000 in
theorem rw_dayAt {S : Nat} {xs : Nat → Int32} {I : zI} {C : zC} {Y : Nat → Int32} {Γ : Nat → zG} {D : zD} {O : Nat → Int32} {M : zM} {ou : Nat → Int64} {od : Nat → UInt64} {j : Nat} {a1 : Int32} {a2 : Int32} {X : Int32 × (Nat → Int64) × Nat}   (hx : fw_dayAt Γ ou j a1 a2 = some X) : Ev S xs 374 0 [some (.ref 0), some (.int a1), some (.int a2), some (.ref 261), none] [] (zH I C Y Γ D O M ou od j) (((.inl (some (.int X.1))), (zH I C Y Γ D O M X.2.1 od X.2.2)) : (Option Value ⊕ String) × px_H) := by
  generalize hM : (((.inl (some (.int X.1))), (zH I C Y Γ D O M X.2.1 od X.2.2)) : (Option Value ⊕ String) × px_H) = y
  replace hM := hM.symm
  have hk : pt_mt[374]? = some pt_r374 := rfl
  unfold fw_dayAt at hx
  refine ev_ls (L' := [some (.ref 0), some (.int a1), some (.int a2), some (.ref 261), none]) (st' := [.ref 261]) (pc' := 1) hk (.aload_n 3) 1 rfl rfl rfl rfl ?_
  refine ev_op (st' := [.int 0, .ref 261]) (pc' := 2) hk (.iconst 0) 1 rfl rfl rfl ?_
  refine ev_ls (L' := [some (.ref 0), some (.int a1), some (.int a2), some (.ref 261), none]) (st' := [.ref 0, .int 0, .ref 261]) (pc' := 3) hk (.aload_n 0) 1 rfl rfl rfl rfl ?_
  refine ev_ls (L' := [some (.ref 0), some (.int a1), some (.int a2), some (.ref 261), none]) (st' := [.int a1, .ref 0, .int 0, .ref 261]) (pc' := 4) hk (.iload_n 1) 1 rfl rfl rfl rfl ?_
  refine ev_ls (L' := [some (.ref 0), some (.int a1), some (.int a2), some (.ref 261), none]) (st' := [.int a2, .int a1, .ref 0, .int 0, .ref 261]) (pc' := 5) hk (.iload_n 2) 1 rfl rfl rfl rfl ?_
  rcases bnx_some hx with ⟨v4, hc2, hx⟩ | ⟨E3, hc2, hx⟩
  · skip
    refine ev_cv 307 2 [.int v4, .int 0, .ref 261] 8 hk rfl rfl rfl rfl lk_dh rfl rfl rfl (rX_dayAt hc2) rfl rfl rfl rfl ?_
    refine ev_op (st' := [.long (Int32.toInt64 v4), .int 0, .ref 261]) (pc' := 9) hk (.i2l) 1 rfl rfl rfl ?_
    obtain ⟨ou5, hou5, hx⟩ := bnd_some hx
    have hou5 := Option.some.inj hou5
    refine ev_las (A := (vp_updL ou 0 (Int32.toInt64 v4))) rfl 10 hk rfl lk_ou (sa_ou hou5) rfl ?_
    refine ev_jp (pc' := 17) (st' := []) hk (.goto 7) 3 rfl rfl rfl rfl rfl ?_
    refine ev_op (st' := [.int 0]) (pc' := 18) hk (.iconst 0) 1 rfl rfl rfl ?_
    cases hx
    obtain rfl := hM
    exact ev_retI hk rfl rfl
  · skip
    rcases ite_or hx with ⟨hE, hx⟩ | ⟨hE, hx⟩
    · subst hE
      refine ev_cvC 307 2 15 hk rfl rfl rfl rfl lk_dh rfl rfl rfl (t := 13) (by decide +kernel) (L' := [some (.ref 0), some (.int a1), some (.int a2), some (.ref 261), none]) rfl (rX_dayAt hc2) rfl rfl ?_
      refine ev_op (st' := [.int 1]) (pc' := 16) hk (.iconst 1) 1 rfl rfl rfl ?_
      cases hx
      obtain rfl := hM
      exact ev_retI hk rfl rfl
    cases hx
set_option maxRecDepth 2000 in
theorem rM_dayAt {S : Nat} {xs : Nat → Int32} {I : zI} {C : zC} {Y : Nat → Int32} {Γ : Nat → zG} {D : zD} {O : Nat → Int32} {M : zM} {ou : Nat → Int64} {od : Nat → UInt64} {j : Nat} {a1 : Int32} {a2 : Int32} {X : Int32 × zM}   (hx : fM_dayAt M a1 a2 = some X) : Ev S xs 42 0 [some (.ref 247), some (.int a1), some (.int a2)] [] (zH I C Y Γ D O M ou od j) (((.inl (some (.int X.1))), (zH I C Y Γ D O X.2 ou od j)) : (Option Value ⊕ String) × px_H) := by
  generalize hM : (((.inl (some (.int X.1))), (zH I C Y Γ D O X.2 ou od j)) : (Option Value ⊕ String) × px_H) = y
  replace hM := hM.symm
  have hk : pt_mt[42]? = some pt_r42 := rfl
  unfold fM_dayAt at hx
  refine ev_ls (L' := [some (.ref 247), some (.int a1), some (.int a2)]) (st' := [.ref 247]) (pc' := 1) hk (.aload_n 0) 1 rfl rfl rfl rfl ?_
  refine ev_ls (L' := [some (.ref 247), some (.int a1), some (.int a2)]) (st' := [.int a1, .ref 247]) (pc' := 2) hk (.iload_n 1) 1 rfl rfl rfl rfl ?_
  refine ev_ls (L' := [some (.ref 247), some (.int a1), some (.int a2)]) (st' := [.int a2, .int a1, .ref 247]) (pc' := 3) hk (.iload_n 2) 1 rfl rfl rfl rfl ?_
  refine ev_cs 93 2 [.int (b2i (fM_isSpotAt a1 a2)), .ref 247] 6 hk rfl rfl (by decide) rfl rfl rfl (rM_isSpotAt rfl) rfl rfl rfl rfl ?_
  obtain ⟨v2, M1, hc3, hx⟩ := bnd2_some hx
  refine ev_cv 59 1 [.int (b2i v2)] 9 hk rfl rfl rfl rfl lk_model rfl rfl rfl (rM_goes hc3) rfl rfl rfl rfl ?_
  refine ev_d1 21 12 hk rfl rfl rfl rfl (px_beq hx (fun hc hx => ?_) (fun hc hx => ?_))
  · refine ev_op (st' := [.int 0]) (pc' := 22) hk (.iconst 0) 1 rfl rfl rfl ?_
    cases hx
    obtain rfl := hM
    exact ev_retI hk rfl rfl
  · refine ev_ls (L' := [some (.ref 247), some (.int a1), some (.int a2)]) (st' := [.ref 247]) (pc' := 13) hk (.aload_n 0) 1 rfl rfl rfl rfl ?_
    refine ev_ls (L' := [some (.ref 247), some (.int a1), some (.int a2)]) (st' := [.int a1, .ref 247]) (pc' := 14) hk (.iload_n 1) 1 rfl rfl rfl rfl ?_
    refine ev_ls (L' := [some (.ref 247), some (.int a1), some (.int a2)]) (st' := [.int a2, .int a1, .ref 247]) (pc' := 15) hk (.iload_n 2) 1 rfl rfl rfl rfl ?_
    obtain ⟨v4, hc5, hx⟩ := bnd_some hx
    refine ev_cv 122 2 [.int v4] 18 hk rfl rfl rfl rfl lk_model rfl rfl rfl (rM_localDay hc5) rfl rfl rfl rfl ?_
    refine ev_jp (pc' := 22) (st' := [.int v4]) hk (.goto 4) 3 rfl rfl rfl rfl rfl ?_
    cases hx
    obtain rfl := hM
    exact ev_retI hk rfl rfl
set_option maxRecDepth 2000 in
theorem rX_longitude {S : Nat} {xs : Nat → Int32} {I : zI} {C : zC} {Y : Nat → Int32} {Γ : Nat → zG} {D : zD} {O : Nat → Int32} {M : zM} {ou : Nat → Int64} {od : Nat → UInt64} {j : Nat} {a1 : Int32} {a2 : Int32} {X : (Int32 ⊕ String)}   (hx : fX_longitude Γ a1 a2 = some X) : Ev S xs 333 0 [some (.ref 0), some (.int a1), some (.int a2)] [] (zH I C Y Γ D O M ou od j) (Sum.elim (fun v => ((.inl (some (.int v))), (zH I C Y Γ D O M ou od j))) (fun E => (.inr E, (zH I C Y Γ D O M ou od (j + 1)))) X : (Option Value ⊕ String) × px_H) := by
  generalize hM : (Sum.elim (fun v => ((.inl (some (.int v))), (zH I C Y Γ D O M ou od j))) (fun E => (.inr E, (zH I C Y Γ D O M ou od (j + 1)))) X : (Option Value ⊕ String) × px_H) = y
  replace hM := hM.symm
  have hk : pt_mt[333]? = some pt_r333 := rfl
  unfold fX_longitude at hx
  refine ev_ls (L' := [some (.ref 0), some (.int a1), some (.int a2)]) (st' := [.int a1]) (pc' := 1) hk (.iload_n 1) 1 rfl rfl rfl rfl ?_
  refine ev_ls (L' := [some (.ref 0), some (.int a1), some (.int a2)]) (st' := [.int a2, .int a1]) (pc' := 2) hk (.iload_n 2) 1 rfl rfl rfl rfl ?_
  rcases bnx_some hx with ⟨⟨⟩, hc1, hx⟩ | ⟨E2, hc1, hx⟩
  · skip
    refine ev_cs 343 2 [] 5 hk rfl rfl (by decide) rfl rfl rfl (rX_needPlace hc1) rfl rfl rfl rfl ?_
    refine ev_ls (L' := [some (.ref 0), some (.int a1), some (.int a2)]) (st' := [.ref 0]) (pc' := 6) hk (.aload_n 0) 1 rfl rfl rfl rfl ?_
    refine ev_gf (.ref 10) 9 hk rfl rfl lk_dh rfl rfl ?_
    refine ev_ls (L' := [some (.ref 0), some (.int a1), some (.int a2)]) (st' := [.int a1, .ref 10]) (pc' := 10) hk (.iload_n 1) 1 rfl rfl rfl rfl ?_
    refine ev_ls (L' := [some (.ref 0), some (.int a1), some (.int a2)]) (st' := [.int a2, .int a1, .ref 10]) (pc' := 11) hk (.iload_n 2) 1 rfl rfl rfl rfl ?_
    obtain ⟨v4, hc5, hx⟩ := bnd_some hx
    refine ev_cv 238 2 [.int v4] 14 hk rfl rfl rfl rfl (lk_globe isG_10 rfl) rfl rfl rfl (ev_gs2 (rG_longitudeIn isG_10 hc5)) rfl rfl rfl rfl ?_
    cases hx
    obtain rfl := hM
    exact ev_retI hk rfl rfl
  · skip
    cases hx
    obtain rfl := hM
    exact ev_csX 343 2 hk rfl rfl (by decide) rfl rfl rfl rfl (rX_needPlace hc1) rfl rfl
set_option maxRecDepth 2000 in
theorem rw_longitude {S : Nat} {xs : Nat → Int32} {I : zI} {C : zC} {Y : Nat → Int32} {Γ : Nat → zG} {D : zD} {O : Nat → Int32} {M : zM} {ou : Nat → Int64} {od : Nat → UInt64} {j : Nat} {a1 : Int32} {a2 : Int32} {X : Int32 × (Nat → Int64) × Nat}   (hx : fw_longitude Γ ou j a1 a2 = some X) : Ev S xs 391 0 [some (.ref 0), some (.int a1), some (.int a2), some (.ref 261), none] [] (zH I C Y Γ D O M ou od j) (((.inl (some (.int X.1))), (zH I C Y Γ D O M X.2.1 od X.2.2)) : (Option Value ⊕ String) × px_H) := by
  generalize hM : (((.inl (some (.int X.1))), (zH I C Y Γ D O M X.2.1 od X.2.2)) : (Option Value ⊕ String) × px_H) = y
  replace hM := hM.symm
  have hk : pt_mt[391]? = some pt_r391 := rfl
  unfold fw_longitude at hx
  refine ev_ls (L' := [some (.ref 0), some (.int a1), some (.int a2), some (.ref 261), none]) (st' := [.ref 261]) (pc' := 1) hk (.aload_n 3) 1 rfl rfl rfl rfl ?_
  refine ev_op (st' := [.int 0, .ref 261]) (pc' := 2) hk (.iconst 0) 1 rfl rfl rfl ?_
  refine ev_ls (L' := [some (.ref 0), some (.int a1), some (.int a2), some (.ref 261), none]) (st' := [.ref 0, .int 0, .ref 261]) (pc' := 3) hk (.aload_n 0) 1 rfl rfl rfl rfl ?_
  refine ev_ls (L' := [some (.ref 0), some (.int a1), some (.int a2), some (.ref 261), none]) (st' := [.int a1, .ref 0, .int 0, .ref 261]) (pc' := 4) hk (.iload_n 1) 1 rfl rfl rfl rfl ?_
  refine ev_ls (L' := [some (.ref 0), some (.int a1), some (.int a2), some (.ref 261), none]) (st' := [.int a2, .int a1, .ref 0, .int 0, .ref 261]) (pc' := 5) hk (.iload_n 2) 1 rfl rfl rfl rfl ?_
  rcases bnx_some hx with ⟨v4, hc2, hx⟩ | ⟨E3, hc2, hx⟩
  · skip
    refine ev_cv 333 2 [.int v4, .int 0, .ref 261] 8 hk rfl rfl rfl rfl lk_dh rfl rfl rfl (rX_longitude hc2) rfl rfl rfl rfl ?_
    refine ev_op (st' := [.long (Int32.toInt64 v4), .int 0, .ref 261]) (pc' := 9) hk (.i2l) 1 rfl rfl rfl ?_
    obtain ⟨ou5, hou5, hx⟩ := bnd_some hx
    have hou5 := Option.some.inj hou5
    refine ev_las (A := (vp_updL ou 0 (Int32.toInt64 v4))) rfl 10 hk rfl lk_ou (sa_ou hou5) rfl ?_
    refine ev_jp (pc' := 17) (st' := []) hk (.goto 7) 3 rfl rfl rfl rfl rfl ?_
    refine ev_op (st' := [.int 0]) (pc' := 18) hk (.iconst 0) 1 rfl rfl rfl ?_
    cases hx
    obtain rfl := hM
    exact ev_retI hk rfl rfl
  · skip
    rcases ite_or hx with ⟨hE, hx⟩ | ⟨hE, hx⟩
    · subst hE
      refine ev_cvC 333 2 15 hk rfl rfl rfl rfl lk_dh rfl rfl rfl (t := 13) (by decide +kernel) (L' := [some (.ref 0), some (.int a1), some (.int a2), some (.ref 261), none]) rfl (rX_longitude hc2) rfl rfl ?_
      refine ev_op (st' := [.int 1]) (pc' := 16) hk (.iconst 1) 1 rfl rfl rfl ?_
      cases hx
      obtain rfl := hM
      exact ev_retI hk rfl rfl
    cases hx
set_option maxRecDepth 2000 in
theorem rM_longitude {S : Nat} {xs : Nat → Int32} {I : zI} {C : zC} {Y : Nat → Int32} {Γ : Nat → zG} {D : zD} {O : Nat → Int32} {M : zM} {ou : Nat → Int64} {od : Nat → UInt64} {j : Nat} {a1 : Int32} {a2 : Int32} {X : Int32 × zM}   (hx : fM_longitude M a1 a2 = some X) : Ev S xs 126 0 [some (.ref 247), some (.int a1), some (.int a2)] [] (zH I C Y Γ D O M ou od j) (((.inl (some (.int X.1))), (zH I C Y Γ D O X.2 ou od j)) : (Option Value ⊕ String) × px_H) := by
  generalize hM : (((.inl (some (.int X.1))), (zH I C Y Γ D O X.2 ou od j)) : (Option Value ⊕ String) × px_H) = y
  replace hM := hM.symm
  have hk : pt_mt[126]? = some pt_r126 := rfl
  unfold fM_longitude at hx
  refine ev_ls (L' := [some (.ref 247), some (.int a1), some (.int a2)]) (st' := [.ref 247]) (pc' := 1) hk (.aload_n 0) 1 rfl rfl rfl rfl ?_
  refine ev_ls (L' := [some (.ref 247), some (.int a1), some (.int a2)]) (st' := [.int a1, .ref 247]) (pc' := 2) hk (.iload_n 1) 1 rfl rfl rfl rfl ?_
  refine ev_ls (L' := [some (.ref 247), some (.int a1), some (.int a2)]) (st' := [.int a2, .int a1, .ref 247]) (pc' := 3) hk (.iload_n 2) 1 rfl rfl rfl rfl ?_
  refine ev_cs 93 2 [.int (b2i (fM_isSpotAt a1 a2)), .ref 247] 6 hk rfl rfl (by decide) rfl rfl rfl (rM_isSpotAt rfl) rfl rfl rfl rfl ?_
  obtain ⟨v2, M1, hc3, hx⟩ := bnd2_some hx
  refine ev_cv 59 1 [.int (b2i v2)] 9 hk rfl rfl rfl rfl lk_model rfl rfl rfl (rM_goes hc3) rfl rfl rfl rfl ?_
  refine ev_d1 21 12 hk rfl rfl rfl rfl (px_beq hx (fun hc hx => ?_) (fun hc hx => ?_))
  · refine ev_op (st' := [.int 0]) (pc' := 22) hk (.iconst 0) 1 rfl rfl rfl ?_
    cases hx
    obtain rfl := hM
    exact ev_retI hk rfl rfl
  · refine ev_ls (L' := [some (.ref 247), some (.int a1), some (.int a2)]) (st' := [.ref 247]) (pc' := 13) hk (.aload_n 0) 1 rfl rfl rfl rfl ?_
    refine ev_ls (L' := [some (.ref 247), some (.int a1), some (.int a2)]) (st' := [.int a1, .ref 247]) (pc' := 14) hk (.iload_n 1) 1 rfl rfl rfl rfl ?_
    refine ev_ls (L' := [some (.ref 247), some (.int a1), some (.int a2)]) (st' := [.int a2, .int a1, .ref 247]) (pc' := 15) hk (.iload_n 2) 1 rfl rfl rfl rfl ?_
    obtain ⟨v4, hc5, hx⟩ := bnd_some hx
    refine ev_cv 127 2 [.int v4] 18 hk rfl rfl rfl rfl lk_model rfl rfl rfl (rM_longitudeOf hc5) rfl rfl rfl rfl ?_
    refine ev_jp (pc' := 22) (st' := [.int v4]) hk (.goto 4) 3 rfl rfl rfl rfl rfl ?_
    cases hx
    obtain rfl := hM
    exact ev_retI hk rfl rfl
set_option maxRecDepth 2000 in
theorem rX_hemAt {S : Nat} {xs : Nat → Int32} {I : zI} {C : zC} {Y : Nat → Int32} {Γ : Nat → zG} {D : zD} {O : Nat → Int32} {M : zM} {ou : Nat → Int64} {od : Nat → UInt64} {j : Nat} {a1 : Int32} {X : (Int32 ⊕ String)}   (hx : fX_hemAt Γ a1 = some X) : Ev S xs 316 0 [some (.ref 0), some (.int a1)] [] (zH I C Y Γ D O M ou od j) (Sum.elim (fun v => ((.inl (some (.int v))), (zH I C Y Γ D O M ou od j))) (fun E => (.inr E, (zH I C Y Γ D O M ou od (j + 1)))) X : (Option Value ⊕ String) × px_H) := by
  generalize hM : (Sum.elim (fun v => ((.inl (some (.int v))), (zH I C Y Γ D O M ou od j))) (fun E => (.inr E, (zH I C Y Γ D O M ou od (j + 1)))) X : (Option Value ⊕ String) × px_H) = y
  replace hM := hM.symm
  have hk : pt_mt[316]? = some pt_r316 := rfl
  unfold fX_hemAt at hx
  refine ev_ls (L' := [some (.ref 0), some (.int a1)]) (st' := [.int a1]) (pc' := 1) hk (.iload_n 1) 1 rfl rfl rfl rfl ?_
  rcases bnx_some hx with ⟨⟨⟩, hc2, hx⟩ | ⟨E3, hc2, hx⟩
  · skip
    refine ev_cs 340 1 [] 4 hk rfl rfl (by decide) rfl rfl rfl (rX_needBand hc2) rfl rfl rfl rfl ?_
    refine ev_ls (L' := [some (.ref 0), some (.int a1)]) (st' := [.ref 0]) (pc' := 5) hk (.aload_n 0) 1 rfl rfl rfl rfl ?_
    refine ev_gf (.ref 10) 8 hk rfl rfl lk_dh rfl rfl ?_
    refine ev_gf (.ref (10 + 5)) 11 hk rfl rfl (lk_globe isG_10 rfl) rfl rfl ?_
    refine ev_ls (L' := [some (.ref 0), some (.int a1)]) (st' := [.int a1, .ref (10 + 5)]) (pc' := 12) hk (.iload_n 1) 1 rfl rfl rfl rfl ?_
    obtain ⟨v5, hv5, hx⟩ := bnd_some hx
    refine ev_ial hv5 13 hk rfl (lk_a5 isG_10 rfl) rfl ?_
    cases hx
    obtain rfl := hM
    exact ev_retI hk rfl rfl
  · skip
    cases hx
    obtain rfl := hM
    exact ev_csX 340 1 hk rfl rfl (by decide) rfl rfl rfl rfl (rX_needBand hc2) rfl rfl
set_option maxRecDepth 2000 in
theorem rw_hemAt {S : Nat} {xs : Nat → Int32} {I : zI} {C : zC} {Y : Nat → Int32} {Γ : Nat → zG} {D : zD} {O : Nat → Int32} {M : zM} {ou : Nat → Int64} {od : Nat → UInt64} {j : Nat} {a1 : Int32} {X : Int32 × (Nat → Int64) × Nat}   (hx : fw_hemAt Γ ou j a1 = some X) : Ev S xs 379 0 [some (.ref 0), some (.int a1), some (.ref 261), none] [] (zH I C Y Γ D O M ou od j) (((.inl (some (.int X.1))), (zH I C Y Γ D O M X.2.1 od X.2.2)) : (Option Value ⊕ String) × px_H) := by
  generalize hM : (((.inl (some (.int X.1))), (zH I C Y Γ D O M X.2.1 od X.2.2)) : (Option Value ⊕ String) × px_H) = y
  replace hM := hM.symm
  have hk : pt_mt[379]? = some pt_r379 := rfl
  unfold fw_hemAt at hx
  refine ev_ls (L' := [some (.ref 0), some (.int a1), some (.ref 261), none]) (st' := [.ref 261]) (pc' := 1) hk (.aload_n 2) 1 rfl rfl rfl rfl ?_
  refine ev_op (st' := [.int 0, .ref 261]) (pc' := 2) hk (.iconst 0) 1 rfl rfl rfl ?_
  refine ev_ls (L' := [some (.ref 0), some (.int a1), some (.ref 261), none]) (st' := [.ref 0, .int 0, .ref 261]) (pc' := 3) hk (.aload_n 0) 1 rfl rfl rfl rfl ?_
  refine ev_ls (L' := [some (.ref 0), some (.int a1), some (.ref 261), none]) (st' := [.int a1, .ref 0, .int 0, .ref 261]) (pc' := 4) hk (.iload_n 1) 1 rfl rfl rfl rfl ?_
  rcases bnx_some hx with ⟨v4, hc2, hx⟩ | ⟨E3, hc2, hx⟩
  · skip
    refine ev_cv 316 1 [.int v4, .int 0, .ref 261] 7 hk rfl rfl rfl rfl lk_dh rfl rfl rfl (rX_hemAt hc2) rfl rfl rfl rfl ?_
    refine ev_op (st' := [.long (Int32.toInt64 v4), .int 0, .ref 261]) (pc' := 8) hk (.i2l) 1 rfl rfl rfl ?_
    obtain ⟨ou5, hou5, hx⟩ := bnd_some hx
    have hou5 := Option.some.inj hou5
    refine ev_las (A := (vp_updL ou 0 (Int32.toInt64 v4))) rfl 9 hk rfl lk_ou (sa_ou hou5) rfl ?_
    refine ev_jp (pc' := 15) (st' := []) hk (.goto 6) 3 rfl rfl rfl rfl rfl ?_
    refine ev_op (st' := [.int 0]) (pc' := 16) hk (.iconst 0) 1 rfl rfl rfl ?_
    cases hx
    obtain rfl := hM
    exact ev_retI hk rfl rfl
  · skip
    rcases ite_or hx with ⟨hE, hx⟩ | ⟨hE, hx⟩
    · subst hE
      refine ev_cvC 316 1 13 hk rfl rfl rfl rfl lk_dh rfl rfl rfl (t := 12) (by decide +kernel) (L' := [some (.ref 0), some (.int a1), some (.ref 261), none]) rfl (rX_hemAt hc2) rfl rfl ?_
      refine ev_op (st' := [.int 1]) (pc' := 14) hk (.iconst 1) 1 rfl rfl rfl ?_
      cases hx
      obtain rfl := hM
      exact ev_retI hk rfl rfl
    cases hx
set_option maxRecDepth 2000 in
theorem rM_hemAt {S : Nat} {xs : Nat → Int32} {I : zI} {C : zC} {Y : Nat → Int32} {Γ : Nat → zG} {D : zD} {O : Nat → Int32} {M : zM} {ou : Nat → Int64} {od : Nat → UInt64} {j : Nat} {a1 : Int32} {X : Int32 × zM}   (hx : fM_hemAt M a1 = some X) : Ev S xs 67 0 [some (.ref 247), some (.int a1)] [] (zH I C Y Γ D O M ou od j) (((.inl (some (.int X.1))), (zH I C Y Γ D O X.2 ou od j)) : (Option Value ⊕ String) × px_H) := by
  generalize hM : (((.inl (some (.int X.1))), (zH I C Y Γ D O X.2 ou od j)) : (Option Value ⊕ String) × px_H) = y
  replace hM := hM.symm
  have hk : pt_mt[67]? = some pt_r67 := rfl
  unfold fM_hemAt at hx
  refine ev_ls (L' := [some (.ref 247), some (.int a1)]) (st' := [.ref 247]) (pc' := 1) hk (.aload_n 0) 1 rfl rfl rfl rfl ?_
  refine ev_ls (L' := [some (.ref 247), some (.int a1)]) (st' := [.int a1, .ref 247]) (pc' := 2) hk (.iload_n 1) 1 rfl rfl rfl rfl ?_
  refine ev_cs 79 1 [.int (b2i (fM_isBand a1)), .ref 247] 5 hk rfl rfl (by decide) rfl rfl rfl (rM_isBand rfl) rfl rfl rfl rfl ?_
  obtain ⟨v3, M2, hc4, hx⟩ := bnd2_some hx
  refine ev_cv 59 1 [.int (b2i v3)] 8 hk rfl rfl rfl rfl lk_model rfl rfl rfl (rM_goes hc4) rfl rfl rfl rfl ?_
  refine ev_d1 22 11 hk rfl rfl rfl rfl (px_beq hx (fun hc hx => ?_) (fun hc hx => ?_))
  · refine ev_op (st' := [.int 0]) (pc' := 23) hk (.iconst 0) 1 rfl rfl rfl ?_
    cases hx
    obtain rfl := hM
    exact ev_retI hk rfl rfl
  · refine ev_ls (L' := [some (.ref 247), some (.int a1)]) (st' := [.ref 247]) (pc' := 12) hk (.aload_n 0) 1 rfl rfl rfl rfl ?_
    refine ev_gf (.ref 249) 15 hk rfl rfl lk_model rfl rfl ?_
    refine ev_op (st' := [.int 5, .ref 249]) (pc' := 16) hk (.iconst 5) 1 rfl rfl rfl ?_
    refine ev_ls (L' := [some (.ref 247), some (.int a1)]) (st' := [.int a1, .int 5, .ref 249]) (pc' := 17) hk (.iload_n 1) 1 rfl rfl rfl rfl ?_
    refine ev_op (st' := [.int (5 + a1), .ref 249]) (pc' := 18) hk (.iadd) 1 rfl rfl rfl ?_
    obtain ⟨v5, hv5, hx⟩ := bnd_some hx
    refine ev_ial hv5 19 hk rfl lk_m249 rfl ?_
    refine ev_jp (pc' := 23) (st' := [.int v5]) hk (.goto 4) 3 rfl rfl rfl rfl rfl ?_
    cases hx
    obtain rfl := hM
    exact ev_retI hk rfl rfl
set_option maxRecDepth 2000 in
theorem rX_thread {S : Nat} {xs : Nat → Int32} {I : zI} {C : zC} {Y : Nat → Int32} {Γ : Nat → zG} {D : zD} {O : Nat → Int32} {M : zM} {ou : Nat → Int64} {od : Nat → UInt64} {j : Nat}  {X : Int32}   (hx : fX_thread Γ = X) : Ev S xs 361 0 [some (.ref 0)] [] (zH I C Y Γ D O M ou od j) (((.inl (some (.int X))), (zH I C Y Γ D O M ou od j)) : (Option Value ⊕ String) × px_H) := by
  generalize hM : (((.inl (some (.int X))), (zH I C Y Γ D O M ou od j)) : (Option Value ⊕ String) × px_H) = y
  replace hM := hM.symm
  have hk : pt_mt[361]? = some pt_r361 := rfl
  unfold fX_thread at hx
  refine ev_ls (L' := [some (.ref 0)]) (st' := [.ref 0]) (pc' := 1) hk (.aload_n 0) 1 rfl rfl rfl rfl ?_
  refine ev_gf (.ref 10) 4 hk rfl rfl lk_dh rfl rfl ?_
  refine ev_gf (.int (gF (Γ 10) 0 3)) 7 hk rfl rfl (lk_globe isG_10 rfl) rfl rfl ?_
  cases hx
  obtain rfl := hM
  exact ev_retI hk rfl rfl
set_option maxRecDepth 2000 in
theorem rM_thread {S : Nat} {xs : Nat → Int32} {I : zI} {C : zC} {Y : Nat → Int32} {Γ : Nat → zG} {D : zD} {O : Nat → Int32} {M : zM} {ou : Nat → Int64} {od : Nat → UInt64} {j : Nat}  {X : Int32 × zM}   (hx : fM_thread M = some X) : Ev S xs 180 0 [some (.ref 247)] [] (zH I C Y Γ D O M ou od j) (((.inl (some (.int X.1))), (zH I C Y Γ D O X.2 ou od j)) : (Option Value ⊕ String) × px_H) := by
  generalize hM : (((.inl (some (.int X.1))), (zH I C Y Γ D O X.2 ou od j)) : (Option Value ⊕ String) × px_H) = y
  replace hM := hM.symm
  have hk : pt_mt[180]? = some pt_r180 := rfl
  unfold fM_thread at hx
  refine ev_ls (L' := [some (.ref 247)]) (st' := [.ref 247]) (pc' := 1) hk (.aload_n 0) 1 rfl rfl rfl rfl ?_
  refine ev_ls (L' := [some (.ref 247)]) (st' := [.ref 247, .ref 247]) (pc' := 2) hk (.aload_n 0) 1 rfl rfl rfl rfl ?_
  refine ev_gf (.ref 249) 5 hk rfl rfl lk_model rfl rfl ?_
  refine ev_op (st' := [.int 3, .ref 249, .ref 247]) (pc' := 6) hk (.iconst 3) 1 rfl rfl rfl ?_
  refine ev_ial (v := ((mA M 249) 3)) rfl 7 hk rfl lk_m249 rfl ?_
  obtain ⟨v2, M1, hc3, hx⟩ := bnd2_some hx
  refine ev_cv 184 1 [.int v2] 10 hk rfl rfl rfl rfl lk_model rfl rfl rfl (rM_told hc3) rfl rfl rfl rfl ?_
  cases hx
  obtain rfl := hM
  exact ev_retI hk rfl rfl
def qC_countTorn_4 (S : Nat) (xs : Nat → Int32) (I : zI) (C : zC) (Y : Nat → Int32) (Γ : Nat → zG) (D : zD) (O : Nat → Int32) (M : zM) (ou : Nat → Int64) (od : Nat → UInt64) (j : Nat) (g : Nat) (G : zG) (y : (Option Value ⊕ String) × px_H) (s : Int32 × Int32) : Prop := Ev S xs 7 4 [some (.ref (g + 1)), some (.int s.1), some (.int s.2)] [] (zH I C Y (gup Γ g G) D O M ou od j) y
set_option maxRecDepth 4000 in
theorem rC_countTorn_b4 {S : Nat} {xs : Nat → Int32} {I : zI} {C : zC} {Y : Nat → Int32} {Γ : Nat → zG} {D : zD} {O : Nat → Int32} {M : zM} {ou : Nat → Int64} {od : Nat → UInt64} {j : Nat} {g : Nat} {G : zG}  {y : (Option Value ⊕ String) × px_H} {s : Int32 × Int32} {x : (Int32 × Int32) ⊕ (Int32)} (hg : isG g) (hx : fC_countTorn_b4 G s.1 s.2 = some x) (hM : (Sum.elim (qC_countTorn_4 S xs I C Y Γ D O M ou od j g G y) (fun X : Int32 => y = (((.inl (some (.int X))), (zH I C Y (gup Γ g G) D O M ou od j)) : (Option Value ⊕ String) × px_H))) x) : qC_countTorn_4 S xs I C Y Γ D O M ou od j g G y s := by
  obtain ⟨a1, a2⟩ := s
  have hk : pt_mt[7]? = some pt_r7 := rfl
  unfold fC_countTorn_b4 at hx
  try dsimp only at hx
  refine ev_ls (L' := [some (.ref (g + 1)), some (.int a1), some (.int a2)]) (st' := [.int a2]) (pc' := 5) hk (.iload_n 2) 1 rfl rfl rfl rfl ?_
  refine ev_ls (L' := [some (.ref (g + 1)), some (.int a1), some (.int a2)]) (st' := [.ref (g + 1), .int a2]) (pc' := 6) hk (.aload_n 0) 1 rfl rfl rfl rfl ?_
  refine ev_gf (.int (gF G 1 0)) 9 hk rfl rfl (lk_cloth hg gup_same) rfl rfl ?_
  refine ev_d2 30 12 hk rfl rfl rfl rfl (px_cge hx (fun hc hx => ?_) (fun hc hx => ?_))
  · refine ev_ls (L' := [some (.ref (g + 1)), some (.int a1), some (.int a2)]) (st' := [.int a1]) (pc' := 31) hk (.iload_n 1) 1 rfl rfl rfl rfl ?_
    cases hx
    obtain rfl := hM
    exact ev_retI hk rfl rfl
  · refine ev_ls (L' := [some (.ref (g + 1)), some (.int a1), some (.int a2)]) (st' := [.ref (g + 1)]) (pc' := 13) hk (.aload_n 0) 1 rfl rfl rfl rfl ?_
    refine ev_gf (.ref (g + 4)) 16 hk rfl rfl (lk_cloth hg gup_same) rfl rfl ?_
    refine ev_ls (L' := [some (.ref (g + 1)), some (.int a1), some (.int a2)]) (st' := [.int a2, .ref (g + 4)]) (pc' := 17) hk (.iload_n 2) 1 rfl rfl rfl rfl ?_
    obtain ⟨v2, hv2, hx⟩ := bnd_some hx
    refine ev_ial hv2 18 hk rfl (lk_a4 hg gup_same) rfl ?_
    refine ev_d1 24 21 hk rfl rfl rfl rfl (px_cne hx (fun hc hx => ?_) (fun hc hx => ?_))
    · refine ev_ls (L' := [some (.ref (g + 1)), some (.int a1), some (.int (a2 + 1))]) (st' := []) (pc' := 27) hk (.iinc 2 1) 3 rfl rfl rfl rfl ?_
      refine ev_jp (pc' := 4) (st' := []) hk (.goto (-23)) 3 rfl rfl rfl rfl rfl ?_
      cases hx
      exact hM
    · refine ev_ls (L' := [some (.ref (g + 1)), some (.int (a1 + 1)), some (.int a2)]) (st' := []) (pc' := 24) hk (.iinc 1 1) 3 rfl rfl rfl rfl ?_
      refine ev_ls (L' := [some (.ref (g + 1)), some (.int (a1 + 1)), some (.int (a2 + 1))]) (st' := []) (pc' := 27) hk (.iinc 2 1) 3 rfl rfl rfl rfl ?_
      refine ev_jp (pc' := 4) (st' := []) hk (.goto (-23)) 3 rfl rfl rfl rfl rfl ?_
      cases hx
      exact hM
set_option maxRecDepth 2000 in
theorem rC_countTorn {S : Nat} {xs : Nat → Int32} {I : zI} {C : zC} {Y : Nat → Int32} {Γ : Nat → zG} {D : zD} {O : Nat → Int32} {M : zM} {ou : Nat → Int64} {od : Nat → UInt64} {j : Nat} {g : Nat} {G : zG}  {X : Int32}  (hg : isG g) (hx : fC_countTorn G = some X) : Ev S xs 7 0 [some (.ref (g + 1)), none, none] [] (zH I C Y (gup Γ g G) D O M ou od j) (((.inl (some (.int X))), (zH I C Y (gup Γ g G) D O M ou od j)) : (Option Value ⊕ String) × px_H) := by
  generalize hM : (((.inl (some (.int X))), (zH I C Y (gup Γ g G) D O M ou od j)) : (Option Value ⊕ String) × px_H) = y
  replace hM := hM.symm
  have hk : pt_mt[7]? = some pt_r7 := rfl
  unfold fC_countTorn at hx
  refine ev_op (st' := [.int 0]) (pc' := 1) hk (.iconst 0) 1 rfl rfl rfl ?_
  refine ev_ls (L' := [some (.ref (g + 1)), some (.int 0), none]) (st' := []) (pc' := 2) hk (.istore_n 1) 1 rfl rfl rfl rfl ?_
  refine ev_op (st' := [.int 0]) (pc' := 3) hk (.iconst 0) 1 rfl rfl rfl ?_
  refine ev_ls (L' := [some (.ref (g + 1)), some (.int 0), some (.int 0)]) (st' := []) (pc' := 4) hk (.istore_n 2) 1 rfl rfl rfl rfl ?_
  exact ev_iter (qC_countTorn_4 S xs I C Y Γ D O M ou od j g G _) (fun X : Int32 => y = (((.inl (some (.int X))), (zH I C Y (gup Γ g G) D O M ou od j)) : (Option Value ⊕ String) × px_H)) (fun s x hb hM => rC_countTorn_b4 hg hb hM) fu _ _ hx hM 
set_option maxRecDepth 2000 in
theorem rX_tornSeams {S : Nat} {xs : Nat → Int32} {I : zI} {C : zC} {Y : Nat → Int32} {Γ : Nat → zG} {D : zD} {O : Nat → Int32} {M : zM} {ou : Nat → Int64} {od : Nat → UInt64} {j : Nat}  {X : Int32}   (hx : fX_tornSeams Γ = some X) : Ev S xs 362 0 [some (.ref 0)] [] (zH I C Y Γ D O M ou od j) (((.inl (some (.int X))), (zH I C Y Γ D O M ou od j)) : (Option Value ⊕ String) × px_H) := by
  generalize hM : (((.inl (some (.int X))), (zH I C Y Γ D O M ou od j)) : (Option Value ⊕ String) × px_H) = y
  replace hM := hM.symm
  have hk : pt_mt[362]? = some pt_r362 := rfl
  unfold fX_tornSeams at hx
  refine ev_ls (L' := [some (.ref 0)]) (st' := [.ref 0]) (pc' := 1) hk (.aload_n 0) 1 rfl rfl rfl rfl ?_
  refine ev_gf (.ref 10) 4 hk rfl rfl lk_dh rfl rfl ?_
  refine ev_gf (.ref (10 + 1)) 7 hk rfl rfl (lk_globe isG_10 rfl) rfl rfl ?_
  obtain ⟨v1, hc2, hx⟩ := bnd_some hx
  refine ev_cv 7 0 [.int v1] 10 hk rfl rfl rfl rfl (lk_cloth isG_10 rfl) rfl rfl rfl (ev_gs2 (rC_countTorn isG_10 hc2)) rfl rfl rfl rfl ?_
  cases hx
  obtain rfl := hM
  exact ev_retI hk rfl rfl
def qM_torn_4 (S : Nat) (xs : Nat → Int32) (I : zI) (C : zC) (Y : Nat → Int32) (Γ : Nat → zG) (D : zD) (O : Nat → Int32) (M : zM) (ou : Nat → Int64) (od : Nat → UInt64) (j : Nat) (y : (Option Value ⊕ String) × px_H) (s : Int32 × Int32) : Prop := Ev S xs 185 4 [some (.ref 247), some (.int s.1), some (.int s.2)] [] (zH I C Y Γ D O M ou od j) y
set_option maxRecDepth 4000 in
theorem rM_torn_b4 {S : Nat} {xs : Nat → Int32} {I : zI} {C : zC} {Y : Nat → Int32} {Γ : Nat → zG} {D : zD} {O : Nat → Int32} {M : zM} {ou : Nat → Int64} {od : Nat → UInt64} {j : Nat}  {y : (Option Value ⊕ String) × px_H} {s : Int32 × Int32} {x : (Int32 × Int32) ⊕ (Int32)}  (hx : fM_torn_b4 M s.1 s.2 = some x) (hM : (Sum.elim (qM_torn_4 S xs I C Y Γ D O M ou od j y) (fun X : Int32 => y = (((.inl (some (.int X))), (zH I C Y Γ D O M ou od j)) : (Option Value ⊕ String) × px_H))) x) : qM_torn_4 S xs I C Y Γ D O M ou od j y s := by
  obtain ⟨a1, a2⟩ := s
  have hk : pt_mt[185]? = some pt_r185 := rfl
  unfold fM_torn_b4 at hx
  try dsimp only at hx
  refine ev_ls (L' := [some (.ref 247), some (.int a1), some (.int a2)]) (st' := [.int a2]) (pc' := 5) hk (.iload_n 2) 1 rfl rfl rfl rfl ?_
  refine ev_ls (L' := [some (.ref 247), some (.int a1), some (.int a2)]) (st' := [.ref 247, .int a2]) (pc' := 6) hk (.aload_n 0) 1 rfl rfl rfl rfl ?_
  refine ev_gf (.ref 249) 9 hk rfl rfl lk_model rfl rfl ?_
  refine ev_op (st' := [.int 0, .ref 249, .int a2]) (pc' := 10) hk (.iconst 0) 1 rfl rfl rfl ?_
  refine ev_ial (v := ((mA M 249) 0)) rfl 11 hk rfl lk_m249 rfl ?_
  refine ev_d2 31 14 hk rfl rfl rfl rfl (px_cge hx (fun hc hx => ?_) (fun hc hx => ?_))
  · refine ev_ls (L' := [some (.ref 247), some (.int a1), some (.int a2)]) (st' := [.int a1]) (pc' := 32) hk (.iload_n 1) 1 rfl rfl rfl rfl ?_
    cases hx
    obtain rfl := hM
    exact ev_retI hk rfl rfl
  · refine ev_ls (L' := [some (.ref 247), some (.int a1), some (.int a2)]) (st' := [.int a1]) (pc' := 15) hk (.iload_n 1) 1 rfl rfl rfl rfl ?_
    refine ev_ls (L' := [some (.ref 247), some (.int a1), some (.int a2)]) (st' := [.ref 247, .int a1]) (pc' := 16) hk (.aload_n 0) 1 rfl rfl rfl rfl ?_
    refine ev_ls (L' := [some (.ref 247), some (.int a1), some (.int a2)]) (st' := [.int a2, .ref 247, .int a1]) (pc' := 17) hk (.iload_n 2) 1 rfl rfl rfl rfl ?_
    obtain ⟨v1, hc2, hx⟩ := bnd_some hx
    refine ev_cv 98 1 [.int (b2i v1), .int a1] 20 hk rfl rfl rfl rfl lk_model rfl rfl rfl (rM_isTornSeam hc2) rfl rfl rfl rfl ?_
    refine ev_cs 189 1 [.int (fM_truth v1), .int a1] 23 hk rfl rfl (by decide) rfl rfl rfl (rM_truth rfl) rfl rfl rfl rfl ?_
    refine ev_op (st' := [.int (a1 + (fM_truth v1))]) (pc' := 24) hk (.iadd) 1 rfl rfl rfl ?_
    refine ev_ls (L' := [some (.ref 247), some (.int (a1 + (fM_truth v1))), some (.int a2)]) (st' := []) (pc' := 25) hk (.istore_n 1) 1 rfl rfl rfl rfl ?_
    refine ev_ls (L' := [some (.ref 247), some (.int (a1 + (fM_truth v1))), some (.int (a2 + 1))]) (st' := []) (pc' := 28) hk (.iinc 2 1) 3 rfl rfl rfl rfl ?_
    refine ev_jp (pc' := 4) (st' := []) hk (.goto (-24)) 3 rfl rfl rfl rfl rfl ?_
    cases hx
    exact hM
set_option maxRecDepth 2000 in
theorem rM_torn {S : Nat} {xs : Nat → Int32} {I : zI} {C : zC} {Y : Nat → Int32} {Γ : Nat → zG} {D : zD} {O : Nat → Int32} {M : zM} {ou : Nat → Int64} {od : Nat → UInt64} {j : Nat}  {X : Int32}   (hx : fM_torn M = some X) : Ev S xs 185 0 [some (.ref 247), none, none] [] (zH I C Y Γ D O M ou od j) (((.inl (some (.int X))), (zH I C Y Γ D O M ou od j)) : (Option Value ⊕ String) × px_H) := by
  generalize hM : (((.inl (some (.int X))), (zH I C Y Γ D O M ou od j)) : (Option Value ⊕ String) × px_H) = y
  replace hM := hM.symm
  have hk : pt_mt[185]? = some pt_r185 := rfl
  unfold fM_torn at hx
  refine ev_op (st' := [.int 0]) (pc' := 1) hk (.iconst 0) 1 rfl rfl rfl ?_
  refine ev_ls (L' := [some (.ref 247), some (.int 0), none]) (st' := []) (pc' := 2) hk (.istore_n 1) 1 rfl rfl rfl rfl ?_
  refine ev_op (st' := [.int 0]) (pc' := 3) hk (.iconst 0) 1 rfl rfl rfl ?_
  refine ev_ls (L' := [some (.ref 247), some (.int 0), some (.int 0)]) (st' := []) (pc' := 4) hk (.istore_n 2) 1 rfl rfl rfl rfl ?_
  exact ev_iter (qM_torn_4 S xs I C Y Γ D O M ou od j _) (fun X : Int32 => y = (((.inl (some (.int X))), (zH I C Y Γ D O M ou od j)) : (Option Value ⊕ String) × px_H)) (fun s x hb hM => rM_torn_b4 hb hM) fu _ _ hx hM 
set_option maxRecDepth 2000 in
theorem rM_tornSeams {S : Nat} {xs : Nat → Int32} {I : zI} {C : zC} {Y : Nat → Int32} {Γ : Nat → zG} {D : zD} {O : Nat → Int32} {M : zM} {ou : Nat → Int64} {od : Nat → UInt64} {j : Nat}  {X : Int32 × zM}   (hx : fM_tornSeams M = some X) : Ev S xs 186 0 [some (.ref 247)] [] (zH I C Y Γ D O M ou od j) (((.inl (some (.int X.1))), (zH I C Y Γ D O X.2 ou od j)) : (Option Value ⊕ String) × px_H) := by
  generalize hM : (((.inl (some (.int X.1))), (zH I C Y Γ D O X.2 ou od j)) : (Option Value ⊕ String) × px_H) = y
  replace hM := hM.symm
  have hk : pt_mt[186]? = some pt_r186 := rfl
  unfold fM_tornSeams at hx
  refine ev_ls (L' := [some (.ref 247)]) (st' := [.ref 247]) (pc' := 1) hk (.aload_n 0) 1 rfl rfl rfl rfl ?_
  refine ev_ls (L' := [some (.ref 247)]) (st' := [.ref 247, .ref 247]) (pc' := 2) hk (.aload_n 0) 1 rfl rfl rfl rfl ?_
  obtain ⟨v1, hc2, hx⟩ := bnd_some hx
  refine ev_cv 185 0 [.int v1, .ref 247] 5 hk rfl rfl rfl rfl lk_model rfl rfl rfl (rM_torn hc2) rfl rfl rfl rfl ?_
  obtain ⟨v4, M3, hc5, hx⟩ := bnd2_some hx
  refine ev_cv 184 1 [.int v4] 8 hk rfl rfl rfl rfl lk_model rfl rfl rfl (rM_told hc5) rfl rfl rfl rfl ?_
  cases hx
  obtain rfl := hM
  exact ev_retI hk rfl rfl
set_option maxRecDepth 2000 in
theorem rX_strainOf {S : Nat} {xs : Nat → Int32} {I : zI} {C : zC} {Y : Nat → Int32} {Γ : Nat → zG} {D : zD} {O : Nat → Int32} {M : zM} {ou : Nat → Int64} {od : Nat → UInt64} {j : Nat} {a1 : Int32} {X : (Int32 ⊕ String)}   (hx : fX_strainOf Γ a1 = some X) : Ev S xs 360 0 [some (.ref 0), some (.int a1)] [] (zH I C Y Γ D O M ou od j) (Sum.elim (fun v => ((.inl (some (.int v))), (zH I C Y Γ D O M ou od j))) (fun E => (.inr E, (zH I C Y Γ D O M ou od (j + 1)))) X : (Option Value ⊕ String) × px_H) := by
  generalize hM : (Sum.elim (fun v => ((.inl (some (.int v))), (zH I C Y Γ D O M ou od j))) (fun E => (.inr E, (zH I C Y Γ D O M ou od (j + 1)))) X : (Option Value ⊕ String) × px_H) = y
  replace hM := hM.symm
  have hk : pt_mt[360]? = some pt_r360 := rfl
  unfold fX_strainOf at hx
  refine ev_ls (L' := [some (.ref 0), some (.int a1)]) (st' := [.ref 0]) (pc' := 1) hk (.aload_n 0) 1 rfl rfl rfl rfl ?_
  refine ev_ls (L' := [some (.ref 0), some (.int a1)]) (st' := [.int a1, .ref 0]) (pc' := 2) hk (.iload_n 1) 1 rfl rfl rfl rfl ?_
  rcases bnx_some hx with ⟨⟨⟩, hc1, hx⟩ | ⟨E2, hc1, hx⟩
  · skip
    refine ev_cv 341 1 [] 5 hk rfl rfl rfl rfl lk_dh rfl rfl rfl (rX_needGore hc1) rfl rfl rfl rfl ?_
    refine ev_ls (L' := [some (.ref 0), some (.int a1)]) (st' := [.ref 0]) (pc' := 6) hk (.aload_n 0) 1 rfl rfl rfl rfl ?_
    refine ev_gf (.ref 10) 9 hk rfl rfl lk_dh rfl rfl ?_
    refine ev_gf (.ref (10 + 1)) 12 hk rfl rfl (lk_globe isG_10 rfl) rfl rfl ?_
    refine ev_ls (L' := [some (.ref 0), some (.int a1)]) (st' := [.int a1, .ref (10 + 1)]) (pc' := 13) hk (.iload_n 1) 1 rfl rfl rfl rfl ?_
    obtain ⟨v4, hc5, hx⟩ := bnd_some hx
    refine ev_cv 13 1 [.int v4] 16 hk rfl rfl rfl rfl (lk_cloth isG_10 rfl) rfl rfl rfl (ev_gs2 (rC_strain isG_10 hc5)) rfl rfl rfl rfl ?_
    cases hx
    obtain rfl := hM
    exact ev_retI hk rfl rfl
  · skip
    cases hx
    obtain rfl := hM
    exact ev_cvX 341 1 hk rfl rfl rfl rfl lk_dh rfl rfl rfl rfl (rX_needGore hc1) rfl rfl
set_option maxRecDepth 2000 in
theorem rw_strainOf {S : Nat} {xs : Nat → Int32} {I : zI} {C : zC} {Y : Nat → Int32} {Γ : Nat → zG} {D : zD} {O : Nat → Int32} {M : zM} {ou : Nat → Int64} {od : Nat → UInt64} {j : Nat} {a1 : Int32} {X : Int32 × (Nat → Int64) × Nat}   (hx : fw_strainOf Γ ou j a1 = some X) : Ev S xs 407 0 [some (.ref 0), some (.int a1), some (.ref 261), none] [] (zH I C Y Γ D O M ou od j) (((.inl (some (.int X.1))), (zH I C Y Γ D O M X.2.1 od X.2.2)) : (Option Value ⊕ String) × px_H) := by
  generalize hM : (((.inl (some (.int X.1))), (zH I C Y Γ D O M X.2.1 od X.2.2)) : (Option Value ⊕ String) × px_H) = y
  replace hM := hM.symm
  have hk : pt_mt[407]? = some pt_r407 := rfl
  unfold fw_strainOf at hx
  refine ev_ls (L' := [some (.ref 0), some (.int a1), some (.ref 261), none]) (st' := [.ref 261]) (pc' := 1) hk (.aload_n 2) 1 rfl rfl rfl rfl ?_
  refine ev_op (st' := [.int 0, .ref 261]) (pc' := 2) hk (.iconst 0) 1 rfl rfl rfl ?_
  refine ev_ls (L' := [some (.ref 0), some (.int a1), some (.ref 261), none]) (st' := [.ref 0, .int 0, .ref 261]) (pc' := 3) hk (.aload_n 0) 1 rfl rfl rfl rfl ?_
  refine ev_ls (L' := [some (.ref 0), some (.int a1), some (.ref 261), none]) (st' := [.int a1, .ref 0, .int 0, .ref 261]) (pc' := 4) hk (.iload_n 1) 1 rfl rfl rfl rfl ?_
  rcases bnx_some hx with ⟨v4, hc2, hx⟩ | ⟨E3, hc2, hx⟩
  · skip
    refine ev_cv 360 1 [.int v4, .int 0, .ref 261] 7 hk rfl rfl rfl rfl lk_dh rfl rfl rfl (rX_strainOf hc2) rfl rfl rfl rfl ?_
    refine ev_op (st' := [.long (Int32.toInt64 v4), .int 0, .ref 261]) (pc' := 8) hk (.i2l) 1 rfl rfl rfl ?_
    obtain ⟨ou5, hou5, hx⟩ := bnd_some hx
    have hou5 := Option.some.inj hou5
    refine ev_las (A := (vp_updL ou 0 (Int32.toInt64 v4))) rfl 9 hk rfl lk_ou (sa_ou hou5) rfl ?_
    refine ev_jp (pc' := 15) (st' := []) hk (.goto 6) 3 rfl rfl rfl rfl rfl ?_
    refine ev_op (st' := [.int 0]) (pc' := 16) hk (.iconst 0) 1 rfl rfl rfl ?_
    cases hx
    obtain rfl := hM
    exact ev_retI hk rfl rfl
  · skip
    rcases ite_or hx with ⟨hE, hx⟩ | ⟨hE, hx⟩
    · subst hE
      refine ev_cvC 360 1 13 hk rfl rfl rfl rfl lk_dh rfl rfl rfl (t := 12) (by decide +kernel) (L' := [some (.ref 0), some (.int a1), some (.ref 261), none]) rfl (rX_strainOf hc2) rfl rfl ?_
      refine ev_op (st' := [.int 1]) (pc' := 14) hk (.iconst 1) 1 rfl rfl rfl ?_
      cases hx
      obtain rfl := hM
      exact ev_retI hk rfl rfl
    cases hx
set_option maxRecDepth 2000 in
theorem rM_strainOf {S : Nat} {xs : Nat → Int32} {I : zI} {C : zC} {Y : Nat → Int32} {Γ : Nat → zG} {D : zD} {O : Nat → Int32} {M : zM} {ou : Nat → Int64} {od : Nat → UInt64} {j : Nat} {a1 : Int32} {X : Int32 × zM}   (hx : fM_strainOf M a1 = some X) : Ev S xs 177 0 [some (.ref 247), some (.int a1)] [] (zH I C Y Γ D O M ou od j) (((.inl (some (.int X.1))), (zH I C Y Γ D O X.2 ou od j)) : (Option Value ⊕ String) × px_H) := by
  generalize hM : (((.inl (some (.int X.1))), (zH I C Y Γ D O X.2 ou od j)) : (Option Value ⊕ String) × px_H) = y
  replace hM := hM.symm
  have hk : pt_mt[177]? = some pt_r177 := rfl
  unfold fM_strainOf at hx
  refine ev_ls (L' := [some (.ref 247), some (.int a1)]) (st' := [.ref 247]) (pc' := 1) hk (.aload_n 0) 1 rfl rfl rfl rfl ?_
  refine ev_ls (L' := [some (.ref 247), some (.int a1)]) (st' := [.ref 247, .ref 247]) (pc' := 2) hk (.aload_n 0) 1 rfl rfl rfl rfl ?_
  refine ev_ls (L' := [some (.ref 247), some (.int a1)]) (st' := [.int a1, .ref 247, .ref 247]) (pc' := 3) hk (.iload_n 1) 1 rfl rfl rfl rfl ?_
  refine ev_cv 85 1 [.int (b2i (fM_isGore M a1)), .ref 247] 6 hk rfl rfl rfl rfl lk_model rfl rfl rfl (rM_isGore rfl) rfl rfl rfl rfl ?_
  obtain ⟨v2, M1, hc3, hx⟩ := bnd2_some hx
  refine ev_cv 59 1 [.int (b2i v2)] 9 hk rfl rfl rfl rfl lk_model rfl rfl rfl (rM_goes hc3) rfl rfl rfl rfl ?_
  refine ev_d1 20 12 hk rfl rfl rfl rfl (px_beq hx (fun hc hx => ?_) (fun hc hx => ?_))
  · refine ev_op (st' := [.int 0]) (pc' := 21) hk (.iconst 0) 1 rfl rfl rfl ?_
    cases hx
    obtain rfl := hM
    exact ev_retI hk rfl rfl
  · refine ev_ls (L' := [some (.ref 247), some (.int a1)]) (st' := [.ref 247]) (pc' := 13) hk (.aload_n 0) 1 rfl rfl rfl rfl ?_
    refine ev_ls (L' := [some (.ref 247), some (.int a1)]) (st' := [.int a1, .ref 247]) (pc' := 14) hk (.iload_n 1) 1 rfl rfl rfl rfl ?_
    obtain ⟨v4, hc5, hx⟩ := bnd_some hx
    refine ev_cv 176 1 [.int v4] 17 hk rfl rfl rfl rfl lk_model rfl rfl rfl (rM_strain hc5) rfl rfl rfl rfl ?_
    refine ev_jp (pc' := 21) (st' := [.int v4]) hk (.goto 4) 3 rfl rfl rfl rfl rfl ?_
    cases hx
    obtain rfl := hM
    exact ev_retI hk rfl rfl
set_option maxRecDepth 2000 in
theorem rX_stitchesOf {S : Nat} {xs : Nat → Int32} {I : zI} {C : zC} {Y : Nat → Int32} {Γ : Nat → zG} {D : zD} {O : Nat → Int32} {M : zM} {ou : Nat → Int64} {od : Nat → UInt64} {j : Nat} {a1 : Int32} {X : (Int32 ⊕ String)}   (hx : fX_stitchesOf Γ a1 = some X) : Ev S xs 359 0 [some (.ref 0), some (.int a1)] [] (zH I C Y Γ D O M ou od j) (Sum.elim (fun v => ((.inl (some (.int v))), (zH I C Y Γ D O M ou od j))) (fun E => (.inr E, (zH I C Y Γ D O M ou od (j + 1)))) X : (Option Value ⊕ String) × px_H) := by
  generalize hM : (Sum.elim (fun v => ((.inl (some (.int v))), (zH I C Y Γ D O M ou od j))) (fun E => (.inr E, (zH I C Y Γ D O M ou od (j + 1)))) X : (Option Value ⊕ String) × px_H) = y
  replace hM := hM.symm
  have hk : pt_mt[359]? = some pt_r359 := rfl
  unfold fX_stitchesOf at hx
  refine ev_ls (L' := [some (.ref 0), some (.int a1)]) (st' := [.ref 0]) (pc' := 1) hk (.aload_n 0) 1 rfl rfl rfl rfl ?_
  refine ev_ls (L' := [some (.ref 0), some (.int a1)]) (st' := [.int a1, .ref 0]) (pc' := 2) hk (.iload_n 1) 1 rfl rfl rfl rfl ?_
  rcases bnx_some hx with ⟨⟨⟩, hc2, hx⟩ | ⟨E3, hc2, hx⟩
  · skip
    refine ev_cv 341 1 [] 5 hk rfl rfl rfl rfl lk_dh rfl rfl rfl (rX_needGore hc2) rfl rfl rfl rfl ?_
    refine ev_ls (L' := [some (.ref 0), some (.int a1)]) (st' := [.ref 0]) (pc' := 6) hk (.aload_n 0) 1 rfl rfl rfl rfl ?_
    refine ev_gf (.ref 10) 9 hk rfl rfl lk_dh rfl rfl ?_
    refine ev_gf (.ref (10 + 1)) 12 hk rfl rfl (lk_globe isG_10 rfl) rfl rfl ?_
    refine ev_gf (.ref (10 + 4)) 15 hk rfl rfl (lk_cloth isG_10 rfl) rfl rfl ?_
    refine ev_ls (L' := [some (.ref 0), some (.int a1)]) (st' := [.int a1, .ref (10 + 4)]) (pc' := 16) hk (.iload_n 1) 1 rfl rfl rfl rfl ?_
    obtain ⟨v5, hv5, hx⟩ := bnd_some hx
    refine ev_ial hv5 17 hk rfl (lk_a4 isG_10 rfl) rfl ?_
    cases hx
    obtain rfl := hM
    exact ev_retI hk rfl rfl
  · skip
    cases hx
    obtain rfl := hM
    exact ev_cvX 341 1 hk rfl rfl rfl rfl lk_dh rfl rfl rfl rfl (rX_needGore hc2) rfl rfl
set_option maxRecDepth 2000 in
theorem rw_stitchesOf {S : Nat} {xs : Nat → Int32} {I : zI} {C : zC} {Y : Nat → Int32} {Γ : Nat → zG} {D : zD} {O : Nat → Int32} {M : zM} {ou : Nat → Int64} {od : Nat → UInt64} {j : Nat} {a1 : Int32} {X : Int32 × (Nat → Int64) × Nat}   (hx : fw_stitchesOf Γ ou j a1 = some X) : Ev S xs 406 0 [some (.ref 0), some (.int a1), some (.ref 261), none] [] (zH I C Y Γ D O M ou od j) (((.inl (some (.int X.1))), (zH I C Y Γ D O M X.2.1 od X.2.2)) : (Option Value ⊕ String) × px_H) := by
  generalize hM : (((.inl (some (.int X.1))), (zH I C Y Γ D O M X.2.1 od X.2.2)) : (Option Value ⊕ String) × px_H) = y
  replace hM := hM.symm
  have hk : pt_mt[406]? = some pt_r406 := rfl
  unfold fw_stitchesOf at hx
  refine ev_ls (L' := [some (.ref 0), some (.int a1), some (.ref 261), none]) (st' := [.ref 261]) (pc' := 1) hk (.aload_n 2) 1 rfl rfl rfl rfl ?_
  refine ev_op (st' := [.int 0, .ref 261]) (pc' := 2) hk (.iconst 0) 1 rfl rfl rfl ?_
  refine ev_ls (L' := [some (.ref 0), some (.int a1), some (.ref 261), none]) (st' := [.ref 0, .int 0, .ref 261]) (pc' := 3) hk (.aload_n 0) 1 rfl rfl rfl rfl ?_
  refine ev_ls (L' := [some (.ref 0), some (.int a1), some (.ref 261), none]) (st' := [.int a1, .ref 0, .int 0, .ref 261]) (pc' := 4) hk (.iload_n 1) 1 rfl rfl rfl rfl ?_
  rcases bnx_some hx with ⟨v4, hc2, hx⟩ | ⟨E3, hc2, hx⟩
  · skip
    refine ev_cv 359 1 [.int v4, .int 0, .ref 261] 7 hk rfl rfl rfl rfl lk_dh rfl rfl rfl (rX_stitchesOf hc2) rfl rfl rfl rfl ?_
    refine ev_op (st' := [.long (Int32.toInt64 v4), .int 0, .ref 261]) (pc' := 8) hk (.i2l) 1 rfl rfl rfl ?_
    obtain ⟨ou5, hou5, hx⟩ := bnd_some hx
    have hou5 := Option.some.inj hou5
    refine ev_las (A := (vp_updL ou 0 (Int32.toInt64 v4))) rfl 9 hk rfl lk_ou (sa_ou hou5) rfl ?_
    refine ev_jp (pc' := 15) (st' := []) hk (.goto 6) 3 rfl rfl rfl rfl rfl ?_
    refine ev_op (st' := [.int 0]) (pc' := 16) hk (.iconst 0) 1 rfl rfl rfl ?_
    cases hx
    obtain rfl := hM
    exact ev_retI hk rfl rfl
  · skip
    rcases ite_or hx with ⟨hE, hx⟩ | ⟨hE, hx⟩
    · subst hE
      refine ev_cvC 359 1 13 hk rfl rfl rfl rfl lk_dh rfl rfl rfl (t := 12) (by decide +kernel) (L' := [some (.ref 0), some (.int a1), some (.ref 261), none]) rfl (rX_stitchesOf hc2) rfl rfl ?_
      refine ev_op (st' := [.int 1]) (pc' := 14) hk (.iconst 1) 1 rfl rfl rfl ?_
      cases hx
      obtain rfl := hM
      exact ev_retI hk rfl rfl
    cases hx
set_option maxRecDepth 2000 in
theorem rM_stitchesOf {S : Nat} {xs : Nat → Int32} {I : zI} {C : zC} {Y : Nat → Int32} {Γ : Nat → zG} {D : zD} {O : Nat → Int32} {M : zM} {ou : Nat → Int64} {od : Nat → UInt64} {j : Nat} {a1 : Int32} {X : Int32 × zM}   (hx : fM_stitchesOf M a1 = some X) : Ev S xs 175 0 [some (.ref 247), some (.int a1)] [] (zH I C Y Γ D O M ou od j) (((.inl (some (.int X.1))), (zH I C Y Γ D O X.2 ou od j)) : (Option Value ⊕ String) × px_H) := by
  generalize hM : (((.inl (some (.int X.1))), (zH I C Y Γ D O X.2 ou od j)) : (Option Value ⊕ String) × px_H) = y
  replace hM := hM.symm
  have hk : pt_mt[175]? = some pt_r175 := rfl
  unfold fM_stitchesOf at hx
  refine ev_ls (L' := [some (.ref 247), some (.int a1)]) (st' := [.ref 247]) (pc' := 1) hk (.aload_n 0) 1 rfl rfl rfl rfl ?_
  refine ev_ls (L' := [some (.ref 247), some (.int a1)]) (st' := [.ref 247, .ref 247]) (pc' := 2) hk (.aload_n 0) 1 rfl rfl rfl rfl ?_
  refine ev_ls (L' := [some (.ref 247), some (.int a1)]) (st' := [.int a1, .ref 247, .ref 247]) (pc' := 3) hk (.iload_n 1) 1 rfl rfl rfl rfl ?_
  refine ev_cv 85 1 [.int (b2i (fM_isGore M a1)), .ref 247] 6 hk rfl rfl rfl rfl lk_model rfl rfl rfl (rM_isGore rfl) rfl rfl rfl rfl ?_
  obtain ⟨v3, M2, hc4, hx⟩ := bnd2_some hx
  refine ev_cv 59 1 [.int (b2i v3)] 9 hk rfl rfl rfl rfl lk_model rfl rfl rfl (rM_goes hc4) rfl rfl rfl rfl ?_
  refine ev_d1 24 12 hk rfl rfl rfl rfl (px_beq hx (fun hc hx => ?_) (fun hc hx => ?_))
  · refine ev_op (st' := [.int 0]) (pc' := 25) hk (.iconst 0) 1 rfl rfl rfl ?_
    cases hx
    obtain rfl := hM
    exact ev_retI hk rfl rfl
  · refine ev_ls (L' := [some (.ref 247), some (.int a1)]) (st' := [.ref 247]) (pc' := 13) hk (.aload_n 0) 1 rfl rfl rfl rfl ?_
    refine ev_gf (.ref 249) 16 hk rfl rfl lk_model rfl rfl ?_
    refine ev_op (st' := [.int 26, .ref 249]) (pc' := 18) hk (.bipush 26) 2 rfl rfl rfl ?_
    refine ev_ls (L' := [some (.ref 247), some (.int a1)]) (st' := [.int a1, .int 26, .ref 249]) (pc' := 19) hk (.iload_n 1) 1 rfl rfl rfl rfl ?_
    refine ev_op (st' := [.int (26 + a1), .ref 249]) (pc' := 20) hk (.iadd) 1 rfl rfl rfl ?_
    obtain ⟨v5, hv5, hx⟩ := bnd_some hx
    refine ev_ial hv5 21 hk rfl lk_m249 rfl ?_
    refine ev_jp (pc' := 25) (st' := [.int v5]) hk (.goto 4) 3 rfl rfl rfl rfl rfl ?_
    cases hx
    obtain rfl := hM
    exact ev_retI hk rfl rfl
def qC_goreCovering_4 (S : Nat) (xs : Nat → Int32) (I : zI) (C : zC) (Y : Nat → Int32) (Γ : Nat → zG) (D : zD) (O : Nat → Int32) (M : zM) (ou : Nat → Int64) (od : Nat → UInt64) (j : Nat) (g : Nat) (G : zG) (a1 : Int32) (y : (Option Value ⊕ String) × px_H) (s : Int32 × Int32) : Prop := Ev S xs 8 4 [some (.ref (g + 1)), some (.int a1), some (.int s.1), some (.int s.2)] [] (zH I C Y (gup Γ g G) D O M ou od j) y
set_option maxRecDepth 4000 in
theorem rC_goreCovering_b4 {S : Nat} {xs : Nat → Int32} {I : zI} {C : zC} {Y : Nat → Int32} {Γ : Nat → zG} {D : zD} {O : Nat → Int32} {M : zM} {ou : Nat → Int64} {od : Nat → UInt64} {j : Nat} {g : Nat} {G : zG} {a1 : Int32} {y : (Option Value ⊕ String) × px_H} {s : Int32 × Int32} {x : (Int32 × Int32) ⊕ (Int32)} (hg : isG g) (hx : fC_goreCovering_b4 G a1 s.1 s.2 = some x) (hM : (Sum.elim (qC_goreCovering_4 S xs I C Y Γ D O M ou od j g G a1 y) (fun X : Int32 => y = (((.inl (some (.int X))), (zH I C Y (gup Γ g G) D O M ou od j)) : (Option Value ⊕ String) × px_H))) x) : qC_goreCovering_4 S xs I C Y Γ D O M ou od j g G a1 y s := by
  obtain ⟨a2, a3⟩ := s
  have hk : pt_mt[8]? = some pt_r8 := rfl
  unfold fC_goreCovering_b4 at hx
  try dsimp only at hx
  refine ev_ls (L' := [some (.ref (g + 1)), some (.int a1), some (.int a2), some (.int a3)]) (st' := [.int a3]) (pc' := 5) hk (.iload_n 3) 1 rfl rfl rfl rfl ?_
  refine ev_ls (L' := [some (.ref (g + 1)), some (.int a1), some (.int a2), some (.int a3)]) (st' := [.ref (g + 1), .int a3]) (pc' := 6) hk (.aload_n 0) 1 rfl rfl rfl rfl ?_
  refine ev_gf (.int (gF G 1 0)) 9 hk rfl rfl (lk_cloth hg gup_same) rfl rfl ?_
  refine ev_d2 30 12 hk rfl rfl rfl rfl (px_cge hx (fun hc hx => ?_) (fun hc hx => ?_))
  · refine ev_ls (L' := [some (.ref (g + 1)), some (.int a1), some (.int a2), some (.int a3)]) (st' := [.int a2]) (pc' := 31) hk (.iload_n 2) 1 rfl rfl rfl rfl ?_
    cases hx
    obtain rfl := hM
    exact ev_retI hk rfl rfl
  · refine ev_ls (L' := [some (.ref (g + 1)), some (.int a1), some (.int a2), some (.int a3)]) (st' := [.ref (g + 1)]) (pc' := 13) hk (.aload_n 0) 1 rfl rfl rfl rfl ?_
    refine ev_gf (.ref (g + 3)) 16 hk rfl rfl (lk_cloth hg gup_same) rfl rfl ?_
    refine ev_ls (L' := [some (.ref (g + 1)), some (.int a1), some (.int a2), some (.int a3)]) (st' := [.int a3, .ref (g + 3)]) (pc' := 17) hk (.iload_n 3) 1 rfl rfl rfl rfl ?_
    obtain ⟨v3, hv3, hx⟩ := bnd_some hx
    refine ev_ial hv3 18 hk rfl (lk_a3 hg gup_same) rfl ?_
    refine ev_ls (L' := [some (.ref (g + 1)), some (.int a1), some (.int a2), some (.int a3)]) (st' := [.int a1, .int v3]) (pc' := 19) hk (.iload_n 1) 1 rfl rfl rfl rfl ?_
    refine ev_d2 24 22 hk rfl rfl rfl rfl (px_cgt hx (fun hc hx => ?_) (fun hc hx => ?_))
    · refine ev_ls (L' := [some (.ref (g + 1)), some (.int a1), some (.int a2), some (.int (a3 + 1))]) (st' := []) (pc' := 27) hk (.iinc 3 1) 3 rfl rfl rfl rfl ?_
      refine ev_jp (pc' := 4) (st' := []) hk (.goto (-23)) 3 rfl rfl rfl rfl rfl ?_
      cases hx
      exact hM
    · refine ev_ls (L' := [some (.ref (g + 1)), some (.int a1), some (.int a2), some (.int a3)]) (st' := [.int a3]) (pc' := 23) hk (.iload_n 3) 1 rfl rfl rfl rfl ?_
      refine ev_ls (L' := [some (.ref (g + 1)), some (.int a1), some (.int a3), some (.int a3)]) (st' := []) (pc' := 24) hk (.istore_n 2) 1 rfl rfl rfl rfl ?_
      refine ev_ls (L' := [some (.ref (g + 1)), some (.int a1), some (.int a3), some (.int (a3 + 1))]) (st' := []) (pc' := 27) hk (.iinc 3 1) 3 rfl rfl rfl rfl ?_
      refine ev_jp (pc' := 4) (st' := []) hk (.goto (-23)) 3 rfl rfl rfl rfl rfl ?_
      cases hx
      exact hM
set_option maxRecDepth 2000 in
theorem rC_goreCovering {S : Nat} {xs : Nat → Int32} {I : zI} {C : zC} {Y : Nat → Int32} {Γ : Nat → zG} {D : zD} {O : Nat → Int32} {M : zM} {ou : Nat → Int64} {od : Nat → UInt64} {j : Nat} {g : Nat} {G : zG} {a1 : Int32} {X : Int32}  (hg : isG g) (hx : fC_goreCovering G a1 = some X) : Ev S xs 8 0 [some (.ref (g + 1)), some (.int a1), none, none] [] (zH I C Y (gup Γ g G) D O M ou od j) (((.inl (some (.int X))), (zH I C Y (gup Γ g G) D O M ou od j)) : (Option Value ⊕ String) × px_H) := by
  generalize hM : (((.inl (some (.int X))), (zH I C Y (gup Γ g G) D O M ou od j)) : (Option Value ⊕ String) × px_H) = y
  replace hM := hM.symm
  have hk : pt_mt[8]? = some pt_r8 := rfl
  unfold fC_goreCovering at hx
  refine ev_op (st' := [.int 0]) (pc' := 1) hk (.iconst 0) 1 rfl rfl rfl ?_
  refine ev_ls (L' := [some (.ref (g + 1)), some (.int a1), some (.int 0), none]) (st' := []) (pc' := 2) hk (.istore_n 2) 1 rfl rfl rfl rfl ?_
  refine ev_op (st' := [.int 0]) (pc' := 3) hk (.iconst 0) 1 rfl rfl rfl ?_
  refine ev_ls (L' := [some (.ref (g + 1)), some (.int a1), some (.int 0), some (.int 0)]) (st' := []) (pc' := 4) hk (.istore_n 3) 1 rfl rfl rfl rfl ?_
  exact ev_iter (qC_goreCovering_4 S xs I C Y Γ D O M ou od j g G a1 _) (fun X : Int32 => y = (((.inl (some (.int X))), (zH I C Y (gup Γ g G) D O M ou od j)) : (Option Value ⊕ String) × px_H)) (fun s x hb hM => rC_goreCovering_b4 hg hb hM) fu _ _ hx hM 
set_option maxRecDepth 2000 in
theorem rX_goreAt {S : Nat} {xs : Nat → Int32} {I : zI} {C : zC} {Y : Nat → Int32} {Γ : Nat → zG} {D : zD} {O : Nat → Int32} {M : zM} {ou : Nat → Int64} {od : Nat → UInt64} {j : Nat} {a1 : Int32} {X : (Int32 ⊕ String)}   (hx : fX_goreAt Γ a1 = some X) : Ev S xs 314 0 [some (.ref 0), some (.int a1)] [] (zH I C Y Γ D O M ou od j) (Sum.elim (fun v => ((.inl (some (.int v))), (zH I C Y Γ D O M ou od j))) (fun E => (.inr E, (zH I C Y Γ D O M ou od (j + 1)))) X : (Option Value ⊕ String) × px_H) := by
  generalize hM : (Sum.elim (fun v => ((.inl (some (.int v))), (zH I C Y Γ D O M ou od j))) (fun E => (.inr E, (zH I C Y Γ D O M ou od (j + 1)))) X : (Option Value ⊕ String) × px_H) = y
  replace hM := hM.symm
  have hk : pt_mt[314]? = some pt_r314 := rfl
  unfold fX_goreAt at hx
  refine ev_ls (L' := [some (.ref 0), some (.int a1)]) (st' := [.int a1]) (pc' := 1) hk (.iload_n 1) 1 rfl rfl rfl rfl ?_
  refine ev_cs 324 1 [.int (b2i (fX_isMeridian a1))] 4 hk rfl rfl (by decide) rfl rfl rfl (rX_isMeridian rfl) rfl rfl rfl rfl ?_
  refine ev_d1 17 7 hk rfl rfl rfl rfl (px_bne hx (fun hc hx => ?_) (fun hc hx => ?_))
  · refine ev_ls (L' := [some (.ref 0), some (.int a1)]) (st' := [.ref 0]) (pc' := 18) hk (.aload_n 0) 1 rfl rfl rfl rfl ?_
    refine ev_gf (.ref 10) 21 hk rfl rfl lk_dh rfl rfl ?_
    refine ev_gf (.ref (10 + 1)) 24 hk rfl rfl (lk_globe isG_10 rfl) rfl rfl ?_
    refine ev_ls (L' := [some (.ref 0), some (.int a1)]) (st' := [.int a1, .ref (10 + 1)]) (pc' := 25) hk (.iload_n 1) 1 rfl rfl rfl rfl ?_
    obtain ⟨v1, hc2, hx⟩ := bnd_some hx
    refine ev_cv 8 1 [.int v1] 28 hk rfl rfl rfl rfl (lk_cloth isG_10 rfl) rfl rfl rfl (ev_gs2 (rC_goreCovering isG_10 hc2)) rfl rfl rfl rfl ?_
    cases hx
    obtain rfl := hM
    exact ev_retI hk rfl rfl
  · cases hx
    obtain rfl := hM
    exact ev_tw hk rfl (by rfl) rfl zH_j
set_option maxRecDepth 2000 in
theorem rw_goreAt {S : Nat} {xs : Nat → Int32} {I : zI} {C : zC} {Y : Nat → Int32} {Γ : Nat → zG} {D : zD} {O : Nat → Int32} {M : zM} {ou : Nat → Int64} {od : Nat → UInt64} {j : Nat} {a1 : Int32} {X : Int32 × (Nat → Int64) × Nat}   (hx : fw_goreAt Γ ou j a1 = some X) : Ev S xs 378 0 [some (.ref 0), some (.int a1), some (.ref 261), none] [] (zH I C Y Γ D O M ou od j) (((.inl (some (.int X.1))), (zH I C Y Γ D O M X.2.1 od X.2.2)) : (Option Value ⊕ String) × px_H) := by
  generalize hM : (((.inl (some (.int X.1))), (zH I C Y Γ D O M X.2.1 od X.2.2)) : (Option Value ⊕ String) × px_H) = y
  replace hM := hM.symm
  have hk : pt_mt[378]? = some pt_r378 := rfl
  unfold fw_goreAt at hx
  refine ev_ls (L' := [some (.ref 0), some (.int a1), some (.ref 261), none]) (st' := [.ref 261]) (pc' := 1) hk (.aload_n 2) 1 rfl rfl rfl rfl ?_
  refine ev_op (st' := [.int 0, .ref 261]) (pc' := 2) hk (.iconst 0) 1 rfl rfl rfl ?_
  refine ev_ls (L' := [some (.ref 0), some (.int a1), some (.ref 261), none]) (st' := [.ref 0, .int 0, .ref 261]) (pc' := 3) hk (.aload_n 0) 1 rfl rfl rfl rfl ?_
  refine ev_ls (L' := [some (.ref 0), some (.int a1), some (.ref 261), none]) (st' := [.int a1, .ref 0, .int 0, .ref 261]) (pc' := 4) hk (.iload_n 1) 1 rfl rfl rfl rfl ?_
  rcases bnx_some hx with ⟨v4, hc2, hx⟩ | ⟨E3, hc2, hx⟩
  · skip
    refine ev_cv 314 1 [.int v4, .int 0, .ref 261] 7 hk rfl rfl rfl rfl lk_dh rfl rfl rfl (rX_goreAt hc2) rfl rfl rfl rfl ?_
    refine ev_op (st' := [.long (Int32.toInt64 v4), .int 0, .ref 261]) (pc' := 8) hk (.i2l) 1 rfl rfl rfl ?_
    obtain ⟨ou5, hou5, hx⟩ := bnd_some hx
    have hou5 := Option.some.inj hou5
    refine ev_las (A := (vp_updL ou 0 (Int32.toInt64 v4))) rfl 9 hk rfl lk_ou (sa_ou hou5) rfl ?_
    refine ev_jp (pc' := 15) (st' := []) hk (.goto 6) 3 rfl rfl rfl rfl rfl ?_
    refine ev_op (st' := [.int 0]) (pc' := 16) hk (.iconst 0) 1 rfl rfl rfl ?_
    cases hx
    obtain rfl := hM
    exact ev_retI hk rfl rfl
  · skip
    rcases ite_or hx with ⟨hE, hx⟩ | ⟨hE, hx⟩
    · subst hE
      refine ev_cvC 314 1 13 hk rfl rfl rfl rfl lk_dh rfl rfl rfl (t := 12) (by decide +kernel) (L' := [some (.ref 0), some (.int a1), some (.ref 261), none]) rfl (rX_goreAt hc2) rfl rfl ?_
      refine ev_op (st' := [.int 1]) (pc' := 14) hk (.iconst 1) 1 rfl rfl rfl ?_
      cases hx
      obtain rfl := hM
      exact ev_retI hk rfl rfl
    cases hx
def qM_goreOn_2 (S : Nat) (xs : Nat → Int32) (I : zI) (C : zC) (Y : Nat → Int32) (Γ : Nat → zG) (D : zD) (O : Nat → Int32) (M : zM) (ou : Nat → Int64) (od : Nat → UInt64) (j : Nat) (a1 : Int32) (y : (Option Value ⊕ String) × px_H) (s : Int32) : Prop := Ev S xs 65 2 [some (.ref 247), some (.int a1), some (.int s)] [] (zH I C Y Γ D O M ou od j) y
set_option maxRecDepth 4000 in
theorem rM_goreOn_b2 {S : Nat} {xs : Nat → Int32} {I : zI} {C : zC} {Y : Nat → Int32} {Γ : Nat → zG} {D : zD} {O : Nat → Int32} {M : zM} {ou : Nat → Int64} {od : Nat → UInt64} {j : Nat} {a1 : Int32} {y : (Option Value ⊕ String) × px_H} {s : Int32} {x : (Int32) ⊕ (Int32)}  (hx : fM_goreOn_b2 M a1 s = some x) (hM : (Sum.elim (qM_goreOn_2 S xs I C Y Γ D O M ou od j a1 y) (fun X : Int32 => y = (((.inl (some (.int X))), (zH I C Y Γ D O M ou od j)) : (Option Value ⊕ String) × px_H))) x) : qM_goreOn_2 S xs I C Y Γ D O M ou od j a1 y s := by
  revert hx
  generalize s = a2
  intro hx
  have hk : pt_mt[65]? = some pt_r65 := rfl
  unfold fM_goreOn_b2 at hx
  try dsimp only at hx
  refine ev_ls (L' := [some (.ref 247), some (.int a1), some (.int a2)]) (st' := [.int a2]) (pc' := 3) hk (.iload_n 2) 1 rfl rfl rfl rfl ?_
  refine ev_op (st' := [.int 1, .int a2]) (pc' := 4) hk (.iconst 1) 1 rfl rfl rfl ?_
  refine ev_op (st' := [.int (a2 + 1)]) (pc' := 5) hk (.iadd) 1 rfl rfl rfl ?_
  refine ev_ls (L' := [some (.ref 247), some (.int a1), some (.int a2)]) (st' := [.ref 247, .int (a2 + 1)]) (pc' := 6) hk (.aload_n 0) 1 rfl rfl rfl rfl ?_
  refine ev_gf (.ref 249) 9 hk rfl rfl lk_model rfl rfl ?_
  refine ev_op (st' := [.int 0, .ref 249, .int (a2 + 1)]) (pc' := 10) hk (.iconst 0) 1 rfl rfl rfl ?_
  refine ev_ial (v := ((mA M 249) 0)) rfl 11 hk rfl lk_m249 rfl ?_
  refine ev_d2 31 14 hk rfl rfl rfl rfl (px_cge hx (fun hc hx => ?_) (fun hc hx => ?_))
  · refine ev_ls (L' := [some (.ref 247), some (.int a1), some (.int a2)]) (st' := [.int a2]) (pc' := 32) hk (.iload_n 2) 1 rfl rfl rfl rfl ?_
    cases hx
    obtain rfl := hM
    exact ev_retI hk rfl rfl
  · refine ev_ls (L' := [some (.ref 247), some (.int a1), some (.int a2)]) (st' := [.ref 247]) (pc' := 15) hk (.aload_n 0) 1 rfl rfl rfl rfl ?_
    refine ev_ls (L' := [some (.ref 247), some (.int a1), some (.int a2)]) (st' := [.int a2, .ref 247]) (pc' := 16) hk (.iload_n 2) 1 rfl rfl rfl rfl ?_
    refine ev_op (st' := [.int 1, .int a2, .ref 247]) (pc' := 17) hk (.iconst 1) 1 rfl rfl rfl ?_
    refine ev_op (st' := [.int (a2 + 1), .ref 247]) (pc' := 18) hk (.iadd) 1 rfl rfl rfl ?_
    obtain ⟨v1, hc2, hx⟩ := bnd_some hx
    refine ev_cv 27 1 [.int v1] 21 hk rfl rfl rfl rfl lk_model rfl rfl rfl (rM_beginning hc2) rfl rfl rfl rfl ?_
    refine ev_ls (L' := [some (.ref 247), some (.int a1), some (.int a2)]) (st' := [.int a1, .int v1]) (pc' := 22) hk (.iload_n 1) 1 rfl rfl rfl rfl ?_
    refine ev_d2 31 25 hk rfl rfl rfl rfl (px_cgt hx (fun hc hx => ?_) (fun hc hx => ?_))
    · refine ev_ls (L' := [some (.ref 247), some (.int a1), some (.int a2)]) (st' := [.int a2]) (pc' := 32) hk (.iload_n 2) 1 rfl rfl rfl rfl ?_
      cases hx
      obtain rfl := hM
      exact ev_retI hk rfl rfl
    · refine ev_ls (L' := [some (.ref 247), some (.int a1), some (.int (a2 + 1))]) (st' := []) (pc' := 28) hk (.iinc 2 1) 3 rfl rfl rfl rfl ?_
      refine ev_jp (pc' := 2) (st' := []) hk (.goto (-26)) 3 rfl rfl rfl rfl rfl ?_
      cases hx
      exact hM
set_option maxRecDepth 2000 in
theorem rM_goreOn {S : Nat} {xs : Nat → Int32} {I : zI} {C : zC} {Y : Nat → Int32} {Γ : Nat → zG} {D : zD} {O : Nat → Int32} {M : zM} {ou : Nat → Int64} {od : Nat → UInt64} {j : Nat} {a1 : Int32} {X : Int32}   (hx : fM_goreOn M a1 = some X) : Ev S xs 65 0 [some (.ref 247), some (.int a1), none] [] (zH I C Y Γ D O M ou od j) (((.inl (some (.int X))), (zH I C Y Γ D O M ou od j)) : (Option Value ⊕ String) × px_H) := by
  generalize hM : (((.inl (some (.int X))), (zH I C Y Γ D O M ou od j)) : (Option Value ⊕ String) × px_H) = y
  replace hM := hM.symm
  have hk : pt_mt[65]? = some pt_r65 := rfl
  unfold fM_goreOn at hx
  refine ev_op (st' := [.int 0]) (pc' := 1) hk (.iconst 0) 1 rfl rfl rfl ?_
  refine ev_ls (L' := [some (.ref 247), some (.int a1), some (.int 0)]) (st' := []) (pc' := 2) hk (.istore_n 2) 1 rfl rfl rfl rfl ?_
  exact ev_iter (qM_goreOn_2 S xs I C Y Γ D O M ou od j a1 _) (fun X : Int32 => y = (((.inl (some (.int X))), (zH I C Y Γ D O M ou od j)) : (Option Value ⊕ String) × px_H)) (fun s x hb hM => rM_goreOn_b2 hb hM) fu _ _ hx hM 
set_option maxRecDepth 2000 in
theorem rM_goreAt {S : Nat} {xs : Nat → Int32} {I : zI} {C : zC} {Y : Nat → Int32} {Γ : Nat → zG} {D : zD} {O : Nat → Int32} {M : zM} {ou : Nat → Int64} {od : Nat → UInt64} {j : Nat} {a1 : Int32} {X : Int32 × zM}   (hx : fM_goreAt M a1 = some X) : Ev S xs 63 0 [some (.ref 247), some (.int a1)] [] (zH I C Y Γ D O M ou od j) (((.inl (some (.int X.1))), (zH I C Y Γ D O X.2 ou od j)) : (Option Value ⊕ String) × px_H) := by
  generalize hM : (((.inl (some (.int X.1))), (zH I C Y Γ D O X.2 ou od j)) : (Option Value ⊕ String) × px_H) = y
  replace hM := hM.symm
  have hk : pt_mt[63]? = some pt_r63 := rfl
  unfold fM_goreAt at hx
  refine ev_ls (L' := [some (.ref 247), some (.int a1)]) (st' := [.ref 247]) (pc' := 1) hk (.aload_n 0) 1 rfl rfl rfl rfl ?_
  refine ev_ls (L' := [some (.ref 247), some (.int a1)]) (st' := [.int a1, .ref 247]) (pc' := 2) hk (.iload_n 1) 1 rfl rfl rfl rfl ?_
  refine ev_cs 90 1 [.int (b2i (fM_isMeridian a1)), .ref 247] 5 hk rfl rfl (by decide) rfl rfl rfl (rM_isMeridian rfl) rfl rfl rfl rfl ?_
  obtain ⟨v2, M1, hc3, hx⟩ := bnd2_some hx
  refine ev_cv 59 1 [.int (b2i v2)] 8 hk rfl rfl rfl rfl lk_model rfl rfl rfl (rM_goes hc3) rfl rfl rfl rfl ?_
  refine ev_d1 19 11 hk rfl rfl rfl rfl (px_beq hx (fun hc hx => ?_) (fun hc hx => ?_))
  · refine ev_op (st' := [.int 0]) (pc' := 20) hk (.iconst 0) 1 rfl rfl rfl ?_
    cases hx
    obtain rfl := hM
    exact ev_retI hk rfl rfl
  · refine ev_ls (L' := [some (.ref 247), some (.int a1)]) (st' := [.ref 247]) (pc' := 12) hk (.aload_n 0) 1 rfl rfl rfl rfl ?_
    refine ev_ls (L' := [some (.ref 247), some (.int a1)]) (st' := [.int a1, .ref 247]) (pc' := 13) hk (.iload_n 1) 1 rfl rfl rfl rfl ?_
    obtain ⟨v4, hc5, hx⟩ := bnd_some hx
    refine ev_cv 65 1 [.int v4] 16 hk rfl rfl rfl rfl lk_model rfl rfl rfl (rM_goreOn hc5) rfl rfl rfl rfl ?_
    refine ev_jp (pc' := 20) (st' := [.int v4]) hk (.goto 4) 3 rfl rfl rfl rfl rfl ?_
    cases hx
    obtain rfl := hM
    exact ev_retI hk rfl rfl
set_option maxRecDepth 2000 in
theorem rX_beginOf {S : Nat} {xs : Nat → Int32} {I : zI} {C : zC} {Y : Nat → Int32} {Γ : Nat → zG} {D : zD} {O : Nat → Int32} {M : zM} {ou : Nat → Int64} {od : Nat → UInt64} {j : Nat} {a1 : Int32} {X : (Int32 ⊕ String)}   (hx : fX_beginOf Γ a1 = some X) : Ev S xs 304 0 [some (.ref 0), some (.int a1)] [] (zH I C Y Γ D O M ou od j) (Sum.elim (fun v => ((.inl (some (.int v))), (zH I C Y Γ D O M ou od j))) (fun E => (.inr E, (zH I C Y Γ D O M ou od (j + 1)))) X : (Option Value ⊕ String) × px_H) := by
  generalize hM : (Sum.elim (fun v => ((.inl (some (.int v))), (zH I C Y Γ D O M ou od j))) (fun E => (.inr E, (zH I C Y Γ D O M ou od (j + 1)))) X : (Option Value ⊕ String) × px_H) = y
  replace hM := hM.symm
  have hk : pt_mt[304]? = some pt_r304 := rfl
  unfold fX_beginOf at hx
  refine ev_ls (L' := [some (.ref 0), some (.int a1)]) (st' := [.ref 0]) (pc' := 1) hk (.aload_n 0) 1 rfl rfl rfl rfl ?_
  refine ev_ls (L' := [some (.ref 0), some (.int a1)]) (st' := [.int a1, .ref 0]) (pc' := 2) hk (.iload_n 1) 1 rfl rfl rfl rfl ?_
  rcases bnx_some hx with ⟨⟨⟩, hc2, hx⟩ | ⟨E3, hc2, hx⟩
  · skip
    refine ev_cv 341 1 [] 5 hk rfl rfl rfl rfl lk_dh rfl rfl rfl (rX_needGore hc2) rfl rfl rfl rfl ?_
    refine ev_ls (L' := [some (.ref 0), some (.int a1)]) (st' := [.ref 0]) (pc' := 6) hk (.aload_n 0) 1 rfl rfl rfl rfl ?_
    refine ev_gf (.ref 10) 9 hk rfl rfl lk_dh rfl rfl ?_
    refine ev_gf (.ref (10 + 1)) 12 hk rfl rfl (lk_globe isG_10 rfl) rfl rfl ?_
    refine ev_gf (.ref (10 + 3)) 15 hk rfl rfl (lk_cloth isG_10 rfl) rfl rfl ?_
    refine ev_ls (L' := [some (.ref 0), some (.int a1)]) (st' := [.int a1, .ref (10 + 3)]) (pc' := 16) hk (.iload_n 1) 1 rfl rfl rfl rfl ?_
    obtain ⟨v5, hv5, hx⟩ := bnd_some hx
    refine ev_ial hv5 17 hk rfl (lk_a3 isG_10 rfl) rfl ?_
    cases hx
    obtain rfl := hM
    exact ev_retI hk rfl rfl
  · skip
    cases hx
    obtain rfl := hM
    exact ev_cvX 341 1 hk rfl rfl rfl rfl lk_dh rfl rfl rfl rfl (rX_needGore hc2) rfl rfl
set_option maxRecDepth 2000 in
theorem rw_beginOf {S : Nat} {xs : Nat → Int32} {I : zI} {C : zC} {Y : Nat → Int32} {Γ : Nat → zG} {D : zD} {O : Nat → Int32} {M : zM} {ou : Nat → Int64} {od : Nat → UInt64} {j : Nat} {a1 : Int32} {X : Int32 × (Nat → Int64) × Nat}   (hx : fw_beginOf Γ ou j a1 = some X) : Ev S xs 372 0 [some (.ref 0), some (.int a1), some (.ref 261), none] [] (zH I C Y Γ D O M ou od j) (((.inl (some (.int X.1))), (zH I C Y Γ D O M X.2.1 od X.2.2)) : (Option Value ⊕ String) × px_H) := by
  generalize hM : (((.inl (some (.int X.1))), (zH I C Y Γ D O M X.2.1 od X.2.2)) : (Option Value ⊕ String) × px_H) = y
  replace hM := hM.symm
  have hk : pt_mt[372]? = some pt_r372 := rfl
  unfold fw_beginOf at hx
  refine ev_ls (L' := [some (.ref 0), some (.int a1), some (.ref 261), none]) (st' := [.ref 261]) (pc' := 1) hk (.aload_n 2) 1 rfl rfl rfl rfl ?_
  refine ev_op (st' := [.int 0, .ref 261]) (pc' := 2) hk (.iconst 0) 1 rfl rfl rfl ?_
  refine ev_ls (L' := [some (.ref 0), some (.int a1), some (.ref 261), none]) (st' := [.ref 0, .int 0, .ref 261]) (pc' := 3) hk (.aload_n 0) 1 rfl rfl rfl rfl ?_
  refine ev_ls (L' := [some (.ref 0), some (.int a1), some (.ref 261), none]) (st' := [.int a1, .ref 0, .int 0, .ref 261]) (pc' := 4) hk (.iload_n 1) 1 rfl rfl rfl rfl ?_
  rcases bnx_some hx with ⟨v4, hc2, hx⟩ | ⟨E3, hc2, hx⟩
  · skip
    refine ev_cv 304 1 [.int v4, .int 0, .ref 261] 7 hk rfl rfl rfl rfl lk_dh rfl rfl rfl (rX_beginOf hc2) rfl rfl rfl rfl ?_
    refine ev_op (st' := [.long (Int32.toInt64 v4), .int 0, .ref 261]) (pc' := 8) hk (.i2l) 1 rfl rfl rfl ?_
    obtain ⟨ou5, hou5, hx⟩ := bnd_some hx
    have hou5 := Option.some.inj hou5
    refine ev_las (A := (vp_updL ou 0 (Int32.toInt64 v4))) rfl 9 hk rfl lk_ou (sa_ou hou5) rfl ?_
    refine ev_jp (pc' := 15) (st' := []) hk (.goto 6) 3 rfl rfl rfl rfl rfl ?_
    refine ev_op (st' := [.int 0]) (pc' := 16) hk (.iconst 0) 1 rfl rfl rfl ?_
    cases hx
    obtain rfl := hM
    exact ev_retI hk rfl rfl
  · skip
    rcases ite_or hx with ⟨hE, hx⟩ | ⟨hE, hx⟩
    · subst hE
      refine ev_cvC 304 1 13 hk rfl rfl rfl rfl lk_dh rfl rfl rfl (t := 12) (by decide +kernel) (L' := [some (.ref 0), some (.int a1), some (.ref 261), none]) rfl (rX_beginOf hc2) rfl rfl ?_
      refine ev_op (st' := [.int 1]) (pc' := 14) hk (.iconst 1) 1 rfl rfl rfl ?_
      cases hx
      obtain rfl := hM
      exact ev_retI hk rfl rfl
    cases hx
set_option maxRecDepth 2000 in
theorem rM_beginOf {S : Nat} {xs : Nat → Int32} {I : zI} {C : zC} {Y : Nat → Int32} {Γ : Nat → zG} {D : zD} {O : Nat → Int32} {M : zM} {ou : Nat → Int64} {od : Nat → UInt64} {j : Nat} {a1 : Int32} {X : Int32 × zM}   (hx : fM_beginOf M a1 = some X) : Ev S xs 26 0 [some (.ref 247), some (.int a1)] [] (zH I C Y Γ D O M ou od j) (((.inl (some (.int X.1))), (zH I C Y Γ D O X.2 ou od j)) : (Option Value ⊕ String) × px_H) := by
  generalize hM : (((.inl (some (.int X.1))), (zH I C Y Γ D O X.2 ou od j)) : (Option Value ⊕ String) × px_H) = y
  replace hM := hM.symm
  have hk : pt_mt[26]? = some pt_r26 := rfl
  unfold fM_beginOf at hx
  refine ev_ls (L' := [some (.ref 247), some (.int a1)]) (st' := [.ref 247]) (pc' := 1) hk (.aload_n 0) 1 rfl rfl rfl rfl ?_
  refine ev_ls (L' := [some (.ref 247), some (.int a1)]) (st' := [.ref 247, .ref 247]) (pc' := 2) hk (.aload_n 0) 1 rfl rfl rfl rfl ?_
  refine ev_ls (L' := [some (.ref 247), some (.int a1)]) (st' := [.int a1, .ref 247, .ref 247]) (pc' := 3) hk (.iload_n 1) 1 rfl rfl rfl rfl ?_
  refine ev_cv 85 1 [.int (b2i (fM_isGore M a1)), .ref 247] 6 hk rfl rfl rfl rfl lk_model rfl rfl rfl (rM_isGore rfl) rfl rfl rfl rfl ?_
  obtain ⟨v2, M1, hc3, hx⟩ := bnd2_some hx
  refine ev_cv 59 1 [.int (b2i v2)] 9 hk rfl rfl rfl rfl lk_model rfl rfl rfl (rM_goes hc3) rfl rfl rfl rfl ?_
  refine ev_d1 20 12 hk rfl rfl rfl rfl (px_beq hx (fun hc hx => ?_) (fun hc hx => ?_))
  · refine ev_op (st' := [.int 0]) (pc' := 21) hk (.iconst 0) 1 rfl rfl rfl ?_
    cases hx
    obtain rfl := hM
    exact ev_retI hk rfl rfl
  · refine ev_ls (L' := [some (.ref 247), some (.int a1)]) (st' := [.ref 247]) (pc' := 13) hk (.aload_n 0) 1 rfl rfl rfl rfl ?_
    refine ev_ls (L' := [some (.ref 247), some (.int a1)]) (st' := [.int a1, .ref 247]) (pc' := 14) hk (.iload_n 1) 1 rfl rfl rfl rfl ?_
    obtain ⟨v4, hc5, hx⟩ := bnd_some hx
    refine ev_cv 27 1 [.int v4] 17 hk rfl rfl rfl rfl lk_model rfl rfl rfl (rM_beginning hc5) rfl rfl rfl rfl ?_
    refine ev_jp (pc' := 21) (st' := [.int v4]) hk (.goto 4) 3 rfl rfl rfl rfl rfl ?_
    cases hx
    obtain rfl := hM
    exact ev_retI hk rfl rfl
set_option maxRecDepth 2000 in
theorem rX_widthOf {S : Nat} {xs : Nat → Int32} {I : zI} {C : zC} {Y : Nat → Int32} {Γ : Nat → zG} {D : zD} {O : Nat → Int32} {M : zM} {ou : Nat → Int64} {od : Nat → UInt64} {j : Nat} {a1 : Int32} {X : (Int32 ⊕ String)}   (hx : fX_widthOf Γ a1 = some X) : Ev S xs 367 0 [some (.ref 0), some (.int a1)] [] (zH I C Y Γ D O M ou od j) (Sum.elim (fun v => ((.inl (some (.int v))), (zH I C Y Γ D O M ou od j))) (fun E => (.inr E, (zH I C Y Γ D O M ou od (j + 1)))) X : (Option Value ⊕ String) × px_H) := by
  generalize hM : (Sum.elim (fun v => ((.inl (some (.int v))), (zH I C Y Γ D O M ou od j))) (fun E => (.inr E, (zH I C Y Γ D O M ou od (j + 1)))) X : (Option Value ⊕ String) × px_H) = y
  replace hM := hM.symm
  have hk : pt_mt[367]? = some pt_r367 := rfl
  unfold fX_widthOf at hx
  refine ev_ls (L' := [some (.ref 0), some (.int a1)]) (st' := [.ref 0]) (pc' := 1) hk (.aload_n 0) 1 rfl rfl rfl rfl ?_
  refine ev_ls (L' := [some (.ref 0), some (.int a1)]) (st' := [.int a1, .ref 0]) (pc' := 2) hk (.iload_n 1) 1 rfl rfl rfl rfl ?_
  rcases bnx_some hx with ⟨⟨⟩, hc2, hx⟩ | ⟨E3, hc2, hx⟩
  · skip
    refine ev_cv 341 1 [] 5 hk rfl rfl rfl rfl lk_dh rfl rfl rfl (rX_needGore hc2) rfl rfl rfl rfl ?_
    refine ev_ls (L' := [some (.ref 0), some (.int a1)]) (st' := [.ref 0]) (pc' := 6) hk (.aload_n 0) 1 rfl rfl rfl rfl ?_
    refine ev_gf (.ref 10) 9 hk rfl rfl lk_dh rfl rfl ?_
    refine ev_gf (.ref (10 + 1)) 12 hk rfl rfl (lk_globe isG_10 rfl) rfl rfl ?_
    refine ev_gf (.ref (10 + 2)) 15 hk rfl rfl (lk_cloth isG_10 rfl) rfl rfl ?_
    refine ev_ls (L' := [some (.ref 0), some (.int a1)]) (st' := [.int a1, .ref (10 + 2)]) (pc' := 16) hk (.iload_n 1) 1 rfl rfl rfl rfl ?_
    obtain ⟨v5, hv5, hx⟩ := bnd_some hx
    refine ev_ial hv5 17 hk rfl (lk_a2 isG_10 rfl) rfl ?_
    cases hx
    obtain rfl := hM
    exact ev_retI hk rfl rfl
  · skip
    cases hx
    obtain rfl := hM
    exact ev_cvX 341 1 hk rfl rfl rfl rfl lk_dh rfl rfl rfl rfl (rX_needGore hc2) rfl rfl
set_option maxRecDepth 2000 in
theorem rw_widthOf {S : Nat} {xs : Nat → Int32} {I : zI} {C : zC} {Y : Nat → Int32} {Γ : Nat → zG} {D : zD} {O : Nat → Int32} {M : zM} {ou : Nat → Int64} {od : Nat → UInt64} {j : Nat} {a1 : Int32} {X : Int32 × (Nat → Int64) × Nat}   (hx : fw_widthOf Γ ou j a1 = some X) : Ev S xs 411 0 [some (.ref 0), some (.int a1), some (.ref 261), none] [] (zH I C Y Γ D O M ou od j) (((.inl (some (.int X.1))), (zH I C Y Γ D O M X.2.1 od X.2.2)) : (Option Value ⊕ String) × px_H) := by
  generalize hM : (((.inl (some (.int X.1))), (zH I C Y Γ D O M X.2.1 od X.2.2)) : (Option Value ⊕ String) × px_H) = y
  replace hM := hM.symm
  have hk : pt_mt[411]? = some pt_r411 := rfl
  unfold fw_widthOf at hx
  refine ev_ls (L' := [some (.ref 0), some (.int a1), some (.ref 261), none]) (st' := [.ref 261]) (pc' := 1) hk (.aload_n 2) 1 rfl rfl rfl rfl ?_
  refine ev_op (st' := [.int 0, .ref 261]) (pc' := 2) hk (.iconst 0) 1 rfl rfl rfl ?_
  refine ev_ls (L' := [some (.ref 0), some (.int a1), some (.ref 261), none]) (st' := [.ref 0, .int 0, .ref 261]) (pc' := 3) hk (.aload_n 0) 1 rfl rfl rfl rfl ?_
  refine ev_ls (L' := [some (.ref 0), some (.int a1), some (.ref 261), none]) (st' := [.int a1, .ref 0, .int 0, .ref 261]) (pc' := 4) hk (.iload_n 1) 1 rfl rfl rfl rfl ?_
  rcases bnx_some hx with ⟨v4, hc2, hx⟩ | ⟨E3, hc2, hx⟩
  · skip
    refine ev_cv 367 1 [.int v4, .int 0, .ref 261] 7 hk rfl rfl rfl rfl lk_dh rfl rfl rfl (rX_widthOf hc2) rfl rfl rfl rfl ?_
    refine ev_op (st' := [.long (Int32.toInt64 v4), .int 0, .ref 261]) (pc' := 8) hk (.i2l) 1 rfl rfl rfl ?_
    obtain ⟨ou5, hou5, hx⟩ := bnd_some hx
    have hou5 := Option.some.inj hou5
    refine ev_las (A := (vp_updL ou 0 (Int32.toInt64 v4))) rfl 9 hk rfl lk_ou (sa_ou hou5) rfl ?_
    refine ev_jp (pc' := 15) (st' := []) hk (.goto 6) 3 rfl rfl rfl rfl rfl ?_
    refine ev_op (st' := [.int 0]) (pc' := 16) hk (.iconst 0) 1 rfl rfl rfl ?_
    cases hx
    obtain rfl := hM
    exact ev_retI hk rfl rfl
  · skip
    rcases ite_or hx with ⟨hE, hx⟩ | ⟨hE, hx⟩
    · subst hE
      refine ev_cvC 367 1 13 hk rfl rfl rfl rfl lk_dh rfl rfl rfl (t := 12) (by decide +kernel) (L' := [some (.ref 0), some (.int a1), some (.ref 261), none]) rfl (rX_widthOf hc2) rfl rfl ?_
      refine ev_op (st' := [.int 1]) (pc' := 14) hk (.iconst 1) 1 rfl rfl rfl ?_
      cases hx
      obtain rfl := hM
      exact ev_retI hk rfl rfl
    cases hx
set_option maxRecDepth 2000 in
theorem rM_widthOf {S : Nat} {xs : Nat → Int32} {I : zI} {C : zC} {Y : Nat → Int32} {Γ : Nat → zG} {D : zD} {O : Nat → Int32} {M : zM} {ou : Nat → Int64} {od : Nat → UInt64} {j : Nat} {a1 : Int32} {X : Int32 × zM}   (hx : fM_widthOf M a1 = some X) : Ev S xs 199 0 [some (.ref 247), some (.int a1)] [] (zH I C Y Γ D O M ou od j) (((.inl (some (.int X.1))), (zH I C Y Γ D O X.2 ou od j)) : (Option Value ⊕ String) × px_H) := by
  generalize hM : (((.inl (some (.int X.1))), (zH I C Y Γ D O X.2 ou od j)) : (Option Value ⊕ String) × px_H) = y
  replace hM := hM.symm
  have hk : pt_mt[199]? = some pt_r199 := rfl
  unfold fM_widthOf at hx
  refine ev_ls (L' := [some (.ref 247), some (.int a1)]) (st' := [.ref 247]) (pc' := 1) hk (.aload_n 0) 1 rfl rfl rfl rfl ?_
  refine ev_ls (L' := [some (.ref 247), some (.int a1)]) (st' := [.ref 247, .ref 247]) (pc' := 2) hk (.aload_n 0) 1 rfl rfl rfl rfl ?_
  refine ev_ls (L' := [some (.ref 247), some (.int a1)]) (st' := [.int a1, .ref 247, .ref 247]) (pc' := 3) hk (.iload_n 1) 1 rfl rfl rfl rfl ?_
  refine ev_cv 85 1 [.int (b2i (fM_isGore M a1)), .ref 247] 6 hk rfl rfl rfl rfl lk_model rfl rfl rfl (rM_isGore rfl) rfl rfl rfl rfl ?_
  obtain ⟨v3, M2, hc4, hx⟩ := bnd2_some hx
  refine ev_cv 59 1 [.int (b2i v3)] 9 hk rfl rfl rfl rfl lk_model rfl rfl rfl (rM_goes hc4) rfl rfl rfl rfl ?_
  refine ev_d1 24 12 hk rfl rfl rfl rfl (px_beq hx (fun hc hx => ?_) (fun hc hx => ?_))
  · refine ev_op (st' := [.int 0]) (pc' := 25) hk (.iconst 0) 1 rfl rfl rfl ?_
    cases hx
    obtain rfl := hM
    exact ev_retI hk rfl rfl
  · refine ev_ls (L' := [some (.ref 247), some (.int a1)]) (st' := [.ref 247]) (pc' := 13) hk (.aload_n 0) 1 rfl rfl rfl rfl ?_
    refine ev_gf (.ref 249) 16 hk rfl rfl lk_model rfl rfl ?_
    refine ev_op (st' := [.int 14, .ref 249]) (pc' := 18) hk (.bipush 14) 2 rfl rfl rfl ?_
    refine ev_ls (L' := [some (.ref 247), some (.int a1)]) (st' := [.int a1, .int 14, .ref 249]) (pc' := 19) hk (.iload_n 1) 1 rfl rfl rfl rfl ?_
    refine ev_op (st' := [.int (14 + a1), .ref 249]) (pc' := 20) hk (.iadd) 1 rfl rfl rfl ?_
    obtain ⟨v5, hv5, hx⟩ := bnd_some hx
    refine ev_ial hv5 21 hk rfl lk_m249 rfl ?_
    refine ev_jp (pc' := 25) (st' := [.int v5]) hk (.goto 4) 3 rfl rfl rfl rfl rfl ?_
    cases hx
    obtain rfl := hM
    exact ev_retI hk rfl rfl
set_option maxRecDepth 2000 in
theorem rX_goreCount {S : Nat} {xs : Nat → Int32} {I : zI} {C : zC} {Y : Nat → Int32} {Γ : Nat → zG} {D : zD} {O : Nat → Int32} {M : zM} {ou : Nat → Int64} {od : Nat → UInt64} {j : Nat}  {X : Int32}   (hx : fX_goreCount Γ = X) : Ev S xs 315 0 [some (.ref 0)] [] (zH I C Y Γ D O M ou od j) (((.inl (some (.int X))), (zH I C Y Γ D O M ou od j)) : (Option Value ⊕ String) × px_H) := by
  generalize hM : (((.inl (some (.int X))), (zH I C Y Γ D O M ou od j)) : (Option Value ⊕ String) × px_H) = y
  replace hM := hM.symm
  have hk : pt_mt[315]? = some pt_r315 := rfl
  unfold fX_goreCount at hx
  refine ev_ls (L' := [some (.ref 0)]) (st' := [.ref 0]) (pc' := 1) hk (.aload_n 0) 1 rfl rfl rfl rfl ?_
  refine ev_gf (.ref 10) 4 hk rfl rfl lk_dh rfl rfl ?_
  refine ev_gf (.ref (10 + 1)) 7 hk rfl rfl (lk_globe isG_10 rfl) rfl rfl ?_
  refine ev_gf (.int (gF (Γ 10) 1 0)) 10 hk rfl rfl (lk_cloth isG_10 rfl) rfl rfl ?_
  cases hx
  obtain rfl := hM
  exact ev_retI hk rfl rfl
set_option maxRecDepth 2000 in
theorem rM_goreCount {S : Nat} {xs : Nat → Int32} {I : zI} {C : zC} {Y : Nat → Int32} {Γ : Nat → zG} {D : zD} {O : Nat → Int32} {M : zM} {ou : Nat → Int64} {od : Nat → UInt64} {j : Nat}  {X : Int32 × zM}   (hx : fM_goreCount M = some X) : Ev S xs 64 0 [some (.ref 247)] [] (zH I C Y Γ D O M ou od j) (((.inl (some (.int X.1))), (zH I C Y Γ D O X.2 ou od j)) : (Option Value ⊕ String) × px_H) := by
  generalize hM : (((.inl (some (.int X.1))), (zH I C Y Γ D O X.2 ou od j)) : (Option Value ⊕ String) × px_H) = y
  replace hM := hM.symm
  have hk : pt_mt[64]? = some pt_r64 := rfl
  unfold fM_goreCount at hx
  refine ev_ls (L' := [some (.ref 247)]) (st' := [.ref 247]) (pc' := 1) hk (.aload_n 0) 1 rfl rfl rfl rfl ?_
  refine ev_ls (L' := [some (.ref 247)]) (st' := [.ref 247, .ref 247]) (pc' := 2) hk (.aload_n 0) 1 rfl rfl rfl rfl ?_
  refine ev_gf (.ref 249) 5 hk rfl rfl lk_model rfl rfl ?_
  refine ev_op (st' := [.int 0, .ref 249, .ref 247]) (pc' := 6) hk (.iconst 0) 1 rfl rfl rfl ?_
  refine ev_ial (v := ((mA M 249) 0)) rfl 7 hk rfl lk_m249 rfl ?_
  obtain ⟨v2, M1, hc3, hx⟩ := bnd2_some hx
  refine ev_cv 184 1 [.int v2] 10 hk rfl rfl rfl rfl lk_model rfl rfl rfl (rM_told hc3) rfl rfl rfl rfl ?_
  cases hx
  obtain rfl := hM
  exact ev_retI hk rfl rfl
set_option maxRecDepth 2000 in
theorem rX_errorOffset {S : Nat} {xs : Nat → Int32} {I : zI} {C : zC} {Y : Nat → Int32} {Γ : Nat → zG} {D : zD} {O : Nat → Int32} {M : zM} {ou : Nat → Int64} {od : Nat → UInt64} {j : Nat}  {X : Int32}   (hx : fX_errorOffset I = X) : Ev S xs 311 0 [some (.ref 0)] [] (zH I C Y Γ D O M ou od j) (((.inl (some (.int X))), (zH I C Y Γ D O M ou od j)) : (Option Value ⊕ String) × px_H) := by
  generalize hM : (((.inl (some (.int X))), (zH I C Y Γ D O M ou od j)) : (Option Value ⊕ String) × px_H) = y
  replace hM := hM.symm
  have hk : pt_mt[311]? = some pt_r311 := rfl
  unfold fX_errorOffset at hx
  refine ev_ls (L' := [some (.ref 0)]) (st' := [.ref 0]) (pc' := 1) hk (.aload_n 0) 1 rfl rfl rfl rfl ?_
  refine ev_gf (.ref 1) 4 hk rfl rfl lk_dh rfl rfl ?_
  refine ev_gf (.int (iF I 9)) 7 hk rfl rfl lk_input rfl rfl ?_
  cases hx
  obtain rfl := hM
  exact ev_retI hk rfl rfl
set_option maxRecDepth 2000 in
theorem rM_errorOffset {S : Nat} {xs : Nat → Int32} {I : zI} {C : zC} {Y : Nat → Int32} {Γ : Nat → zG} {D : zD} {O : Nat → Int32} {M : zM} {ou : Nat → Int64} {od : Nat → UInt64} {j : Nat}  {X : Int32 × zM}   (hx : fM_errorOffset M = some X) : Ev S xs 52 0 [some (.ref 247)] [] (zH I C Y Γ D O M ou od j) (((.inl (some (.int X.1))), (zH I C Y Γ D O X.2 ou od j)) : (Option Value ⊕ String) × px_H) := by
  generalize hM : (((.inl (some (.int X.1))), (zH I C Y Γ D O X.2 ou od j)) : (Option Value ⊕ String) × px_H) = y
  replace hM := hM.symm
  have hk : pt_mt[52]? = some pt_r52 := rfl
  unfold fM_errorOffset at hx
  refine ev_ls (L' := [some (.ref 247)]) (st' := [.ref 247]) (pc' := 1) hk (.aload_n 0) 1 rfl rfl rfl rfl ?_
  refine ev_op (st' := [.int 0, .ref 247]) (pc' := 2) hk (.iconst 0) 1 rfl rfl rfl ?_
  obtain ⟨M2, hM2, hx⟩ := bnd_some hx
  have hM2 := Option.some.inj hM2
  refine ev_pf 5 hk rfl rfl lk_model rfl rfl rfl (sf_8_0 hM2) rfl ?_
  refine ev_ls (L' := [some (.ref 247)]) (st' := [.ref 247]) (pc' := 6) hk (.aload_n 0) 1 rfl rfl rfl rfl ?_
  refine ev_gf (.int (mF M2 11)) 9 hk rfl rfl lk_model rfl rfl ?_
  cases hx
  obtain rfl := hM
  exact ev_retI hk rfl rfl
set_option maxRecDepth 2000 in
theorem rX_errorCode {S : Nat} {xs : Nat → Int32} {I : zI} {C : zC} {Y : Nat → Int32} {Γ : Nat → zG} {D : zD} {O : Nat → Int32} {M : zM} {ou : Nat → Int64} {od : Nat → UInt64} {j : Nat}  {X : Int32}   (hx : fX_errorCode I = X) : Ev S xs 310 0 [some (.ref 0)] [] (zH I C Y Γ D O M ou od j) (((.inl (some (.int X))), (zH I C Y Γ D O M ou od j)) : (Option Value ⊕ String) × px_H) := by
  generalize hM : (((.inl (some (.int X))), (zH I C Y Γ D O M ou od j)) : (Option Value ⊕ String) × px_H) = y
  replace hM := hM.symm
  have hk : pt_mt[310]? = some pt_r310 := rfl
  unfold fX_errorCode at hx
  refine ev_ls (L' := [some (.ref 0)]) (st' := [.ref 0]) (pc' := 1) hk (.aload_n 0) 1 rfl rfl rfl rfl ?_
  refine ev_gf (.ref 1) 4 hk rfl rfl lk_dh rfl rfl ?_
  refine ev_gf (.int (iF I 8)) 7 hk rfl rfl lk_input rfl rfl ?_
  cases hx
  obtain rfl := hM
  exact ev_retI hk rfl rfl
set_option maxRecDepth 2000 in
theorem rM_errorCode {S : Nat} {xs : Nat → Int32} {I : zI} {C : zC} {Y : Nat → Int32} {Γ : Nat → zG} {D : zD} {O : Nat → Int32} {M : zM} {ou : Nat → Int64} {od : Nat → UInt64} {j : Nat}  {X : Int32 × zM}   (hx : fM_errorCode M = some X) : Ev S xs 51 0 [some (.ref 247)] [] (zH I C Y Γ D O M ou od j) (((.inl (some (.int X.1))), (zH I C Y Γ D O X.2 ou od j)) : (Option Value ⊕ String) × px_H) := by
  generalize hM : (((.inl (some (.int X.1))), (zH I C Y Γ D O X.2 ou od j)) : (Option Value ⊕ String) × px_H) = y
  replace hM := hM.symm
  have hk : pt_mt[51]? = some pt_r51 := rfl
  unfold fM_errorCode at hx
  refine ev_ls (L' := [some (.ref 247)]) (st' := [.ref 247]) (pc' := 1) hk (.aload_n 0) 1 rfl rfl rfl rfl ?_
  refine ev_op (st' := [.int 0, .ref 247]) (pc' := 2) hk (.iconst 0) 1 rfl rfl rfl ?_
  obtain ⟨M2, hM2, hx⟩ := bnd_some hx
  have hM2 := Option.some.inj hM2
  refine ev_pf 5 hk rfl rfl lk_model rfl rfl rfl (sf_8_0 hM2) rfl ?_
  refine ev_ls (L' := [some (.ref 247)]) (st' := [.ref 247]) (pc' := 6) hk (.aload_n 0) 1 rfl rfl rfl rfl ?_
  refine ev_gf (.int (mF M2 10)) 9 hk rfl rfl lk_model rfl rfl ?_
  cases hx
  obtain rfl := hM
  exact ev_retI hk rfl rfl
set_option maxRecDepth 2000 in
theorem rI_start {S : Nat} {xs : Nat → Int32} {I : zI} {C : zC} {Y : Nat → Int32} {Γ : Nat → zG} {D : zD} {O : Nat → Int32} {M : zM} {ou : Nat → Int64} {od : Nat → UInt64} {j : Nat}  {X : zI}   (hx : fI_start I = some X) : Ev S xs 274 0 [some (.ref 1)] [] (zH I C Y Γ D O M ou od j) (((.inl none), (zH X C Y Γ D O M ou od j)) : (Option Value ⊕ String) × px_H) := by
  generalize hM : (((.inl none), (zH X C Y Γ D O M ou od j)) : (Option Value ⊕ String) × px_H) = y
  replace hM := hM.symm
  have hk : pt_mt[274]? = some pt_r274 := rfl
  unfold fI_start at hx
  refine ev_ls (L' := [some (.ref 1)]) (st' := [.ref 1]) (pc' := 1) hk (.aload_n 0) 1 rfl rfl rfl rfl ?_
  refine ev_op (st' := [.int 0, .ref 1]) (pc' := 2) hk (.iconst 0) 1 rfl rfl rfl ?_
  obtain ⟨I4, hI4, hx⟩ := bnd_some hx
  have hI4 := Option.some.inj hI4
  refine ev_pf 5 hk rfl rfl lk_input rfl rfl rfl (sf_3_2 hI4) rfl ?_
  refine ev_ls (L' := [some (.ref 1)]) (st' := [.ref 1]) (pc' := 6) hk (.aload_n 0) 1 rfl rfl rfl rfl ?_
  refine ev_op (st' := [.int 0, .ref 1]) (pc' := 7) hk (.iconst 0) 1 rfl rfl rfl ?_
  obtain ⟨I5, hI5, hx⟩ := bnd_some hx
  have hI5 := Option.some.inj hI5
  refine ev_pf 10 hk rfl rfl lk_input rfl rfl rfl (sf_3_8 hI5) rfl ?_
  refine ev_ls (L' := [some (.ref 1)]) (st' := [.ref 1]) (pc' := 11) hk (.aload_n 0) 1 rfl rfl rfl rfl ?_
  refine ev_op (st' := [.int (-1), .ref 1]) (pc' := 12) hk (.iconst (-1)) 1 rfl rfl rfl ?_
  obtain ⟨I6, hI6, hx⟩ := bnd_some hx
  have hI6 := Option.some.inj hI6
  refine ev_pf 15 hk rfl rfl lk_input rfl rfl rfl (sf_3_9 hI6) rfl ?_
  cases hx
  obtain rfl := hM
  exact ev_retv hk rfl rfl
set_option maxRecDepth 2000 in
theorem rI_isBlank {S : Nat} {xs : Nat → Int32} {I : zI} {C : zC} {Y : Nat → Int32} {Γ : Nat → zG} {D : zD} {O : Nat → Int32} {M : zM} {ou : Nat → Int64} {od : Nat → UInt64} {j : Nat} {a0 : Int32} {X : Bool}   (hx : fI_isBlank a0 = X) : Ev S xs 269 0 [some (.int a0)] [] (zH I C Y Γ D O M ou od j) (((.inl (some (.int (b2i X)))), (zH I C Y Γ D O M ou od j)) : (Option Value ⊕ String) × px_H) := by
  generalize hM : (((.inl (some (.int (b2i X)))), (zH I C Y Γ D O M ou od j)) : (Option Value ⊕ String) × px_H) = y
  replace hM := hM.symm
  have hk : pt_mt[269]? = some pt_r269 := rfl
  unfold fI_isBlank at hx
  refine ev_ls (L' := [some (.int a0)]) (st' := [.int a0]) (pc' := 1) hk (.iload_n 0) 1 rfl rfl rfl rfl ?_
  refine ev_op (st' := [.int 32, .int a0]) (pc' := 3) hk (.bipush 32) 2 rfl rfl rfl ?_
  refine ev_d2 12 6 hk rfl rfl rfl rfl (px_ceq hx (fun hc hx => ?_) (fun hc hx => ?_))
  · refine ev_op (st' := [.int 1]) (pc' := 13) hk (.iconst 1) 1 rfl rfl rfl ?_
    refine ev_jp (pc' := 17) (st' := [.int 1]) hk (.goto 4) 3 rfl rfl rfl rfl rfl ?_
    cases hx
    obtain rfl := hM
    exact ev_retZ true rfl hk rfl rfl
  · refine ev_ls (L' := [some (.int a0)]) (st' := [.int a0]) (pc' := 7) hk (.iload_n 0) 1 rfl rfl rfl rfl ?_
    refine ev_op (st' := [.int 10, .int a0]) (pc' := 9) hk (.bipush 10) 2 rfl rfl rfl ?_
    refine ev_d2 16 12 hk rfl rfl rfl rfl (px_cne hx (fun hc hx => ?_) (fun hc hx => ?_))
    · refine ev_op (st' := [.int 0]) (pc' := 17) hk (.iconst 0) 1 rfl rfl rfl ?_
      cases hx
      obtain rfl := hM
      exact ev_retZ false rfl hk rfl rfl
    · refine ev_op (st' := [.int 1]) (pc' := 13) hk (.iconst 1) 1 rfl rfl rfl ?_
      refine ev_jp (pc' := 17) (st' := [.int 1]) hk (.goto 4) 3 rfl rfl rfl rfl rfl ?_
      cases hx
      obtain rfl := hM
      exact ev_retZ true rfl hk rfl rfl
def qI_takeWord_2 (S : Nat) (xs : Nat → Int32) (C : zC) (Y : Nat → Int32) (Γ : Nat → zG) (D : zD) (O : Nat → Int32) (M : zM) (ou : Nat → Int64) (od : Nat → UInt64) (j : Nat) (y : (Option Value ⊕ String) × px_H) (s : zI × Int64) : Prop := Ev S xs 277 2 [some (.ref 1), some (.long s.2), none, none] [] (zH s.1 C Y Γ D O M ou od j) y
set_option maxRecDepth 4000 in
theorem rI_takeWord_j100 {S : Nat} {xs : Nat → Int32} {I : zI} {C : zC} {Y : Nat → Int32} {Γ : Nat → zG} {D : zD} {O : Nat → Int32} {M : zM} {ou : Nat → Int64} {od : Nat → UInt64} {j : Nat} {a0t : Int64} {y : (Option Value ⊕ String) × px_H} {x : zI}  (hx : fI_takeWord_j100 I a0t = some x) (hM : (fun X : zI => y = (((.inl none), (zH X C Y Γ D O M ou od j)) : (Option Value ⊕ String) × px_H)) x) (u0 : Option Value) (hu0 : px_cz u0 = true) (u1 : Option Value) (u3 : Option Value) (hu3 : px_cz u3 = true) : Ev S xs 277 100 [u0, u1, none, u3] [.long a0t, .ref 1] (zH I C Y Γ D O M ou od j) y := by
  have hk : pt_mt[277]? = some pt_r277 := rfl
  unfold fI_takeWord_j100 at hx
  obtain ⟨I13, hI13, hx⟩ := bnd_some hx
  have hI13 := Option.some.inj hI13
  refine ev_pf 103 hk rfl rfl lk_input rfl rfl rfl (sf_3_5 hI13) rfl ?_
  cases hx
  obtain rfl := hM
  exact ev_retv hk rfl rfl
set_option maxRecDepth 4000 in
theorem rI_takeWord_j87 {S : Nat} {xs : Nat → Int32} {I : zI} {C : zC} {Y : Nat → Int32} {Γ : Nat → zG} {D : zD} {O : Nat → Int32} {M : zM} {ou : Nat → Int64} {od : Nat → UInt64} {j : Nat} {a1 : Int64} {a3 : Bool} {a0t : Int32} {y : (Option Value ⊕ String) × px_H} {x : zI}  (hx : fI_takeWord_j87 I a1 a3 a0t = some x) (hM : (fun X : zI => y = (((.inl none), (zH X C Y Γ D O M ou od j)) : (Option Value ⊕ String) × px_H)) x)  : Ev S xs 277 87 [some (.ref 1), some (.long a1), none, some (.int (b2i a3))] [.int a0t, .ref 1] (zH I C Y Γ D O M ou od j) y := by
  have hk : pt_mt[277]? = some pt_r277 := rfl
  unfold fI_takeWord_j87 at hx
  obtain ⟨I12, hI12, hx⟩ := bnd_some hx
  have hI12 := Option.some.inj hI12
  refine ev_pf 90 hk rfl rfl lk_input rfl rfl rfl (sf_3_4 hI12) rfl ?_
  refine ev_ls (L' := [some (.ref 1), some (.long a1), none, some (.int (b2i a3))]) (st' := [.ref 1]) (pc' := 91) hk (.aload_n 0) 1 rfl rfl rfl rfl ?_
  refine ev_ls (L' := [some (.ref 1), some (.long a1), none, some (.int (b2i a3))]) (st' := [.int (b2i a3), .ref 1]) (pc' := 92) hk (.iload_n 3) 1 rfl rfl rfl rfl ?_
  refine ev_d1 99 95 hk rfl rfl rfl rfl (px_beq hx (fun hc hx => ?_) (fun hc hx => ?_))
  · refine ev_op (st' := [.long 0, .ref 1]) (pc' := 100) hk (.lconst 0) 1 rfl rfl rfl ?_
    exact rI_takeWord_j100 hx hM (some (.ref 1)) rfl (some (.long a1)) (some (.int (b2i a3))) rfl
  · refine ev_ls (L' := [some (.ref 1), some (.long a1), none, some (.int (b2i a3))]) (st' := [.long a1, .ref 1]) (pc' := 96) hk (.lload_n 1) 1 rfl rfl rfl rfl ?_
    refine ev_jp (pc' := 100) (st' := [.long a1, .ref 1]) hk (.goto 4) 3 rfl rfl rfl rfl rfl ?_
    exact rI_takeWord_j100 hx hM (some (.ref 1)) rfl (some (.long a1)) (some (.int (b2i a3))) rfl
set_option maxRecDepth 4000 in
theorem rI_takeWord_j76 {S : Nat} {xs : Nat → Int32} {I : zI} {C : zC} {Y : Nat → Int32} {Γ : Nat → zG} {D : zD} {O : Nat → Int32} {M : zM} {ou : Nat → Int64} {od : Nat → UInt64} {j : Nat} {a1 : Int64} {a0t : Bool} {y : (Option Value ⊕ String) × px_H} {x : zI}  (hx : fI_takeWord_j76 I a1 a0t = some x) (hM : (fun X : zI => y = (((.inl none), (zH X C Y Γ D O M ou od j)) : (Option Value ⊕ String) × px_H)) x)  : Ev S xs 277 76 [some (.ref 1), some (.long a1), none, none] [.int (b2i a0t)] (zH I C Y Γ D O M ou od j) y := by
  have hk : pt_mt[277]? = some pt_r277 := rfl
  unfold fI_takeWord_j76 at hx
  refine ev_ls (L' := [some (.ref 1), some (.long a1), none, some (.int (b2i a0t))]) (st' := []) (pc' := 77) hk (.istore_n 3) 1 rfl rfl rfl rfl ?_
  refine ev_ls (L' := [some (.ref 1), some (.long a1), none, some (.int (b2i a0t))]) (st' := [.ref 1]) (pc' := 78) hk (.aload_n 0) 1 rfl rfl rfl rfl ?_
  refine ev_ls (L' := [some (.ref 1), some (.long a1), none, some (.int (b2i a0t))]) (st' := [.int (b2i a0t), .ref 1]) (pc' := 79) hk (.iload_n 3) 1 rfl rfl rfl rfl ?_
  refine ev_d1 86 82 hk rfl rfl rfl rfl (px_beq hx (fun hc hx => ?_) (fun hc hx => ?_))
  · refine ev_op (st' := [.int 4, .ref 1]) (pc' := 87) hk (.iconst 4) 1 rfl rfl rfl ?_
    exact rI_takeWord_j87 hx hM 
  · refine ev_op (st' := [.int 1, .ref 1]) (pc' := 83) hk (.iconst 1) 1 rfl rfl rfl ?_
    refine ev_jp (pc' := 87) (st' := [.int 1, .ref 1]) hk (.goto 4) 3 rfl rfl rfl rfl rfl ?_
    exact rI_takeWord_j87 hx hM 
set_option maxRecDepth 4000 in
theorem rI_takeWord_j57 {S : Nat} {xs : Nat → Int32} {I : zI} {C : zC} {Y : Nat → Int32} {Γ : Nat → zG} {D : zD} {O : Nat → Int32} {M : zM} {ou : Nat → Int64} {od : Nat → UInt64} {j : Nat} {a1 : Int64} {y : (Option Value ⊕ String) × px_H} {x : zI}  (hx : fI_takeWord_j57 I a1 = some x) (hM : (fun X : zI => y = (((.inl none), (zH X C Y Γ D O M ou od j)) : (Option Value ⊕ String) × px_H)) x)  : Ev S xs 277 57 [some (.ref 1), some (.long a1), none, none] [] (zH I C Y Γ D O M ou od j) y := by
  have hk : pt_mt[277]? = some pt_r277 := rfl
  unfold fI_takeWord_j57 at hx
  refine ev_ls (L' := [some (.ref 1), some (.long a1), none, none]) (st' := [.ref 1]) (pc' := 58) hk (.aload_n 0) 1 rfl rfl rfl rfl ?_
  refine ev_gf (.int (iF I 2)) 61 hk rfl rfl lk_input rfl rfl ?_
  refine ev_ls (L' := [some (.ref 1), some (.long a1), none, none]) (st' := [.ref 1, .int (iF I 2)]) (pc' := 62) hk (.aload_n 0) 1 rfl rfl rfl rfl ?_
  refine ev_gf (.int (iF I 3)) 65 hk rfl rfl lk_input rfl rfl ?_
  refine ev_op (st' := [.int ((iF I 2) - (iF I 3))]) (pc' := 66) hk (.isub) 1 rfl rfl rfl ?_
  refine ev_op (st' := [.int 8, .int ((iF I 2) - (iF I 3))]) (pc' := 68) hk (.bipush 8) 2 rfl rfl rfl ?_
  refine ev_d2 75 71 hk rfl rfl rfl rfl (px_cgt hx (fun hc hx => ?_) (fun hc hx => ?_))
  · refine ev_op (st' := [.int 0]) (pc' := 76) hk (.iconst 0) 1 rfl rfl rfl ?_
    exact rI_takeWord_j76 hx hM 
  · refine ev_op (st' := [.int 1]) (pc' := 72) hk (.iconst 1) 1 rfl rfl rfl ?_
    refine ev_jp (pc' := 76) (st' := [.int 1]) hk (.goto 4) 3 rfl rfl rfl rfl rfl ?_
    exact rI_takeWord_j76 hx hM 
set_option maxRecDepth 4000 in
theorem rI_takeWord_b2 {S : Nat} {xs : Nat → Int32} {C : zC} {Y : Nat → Int32} {Γ : Nat → zG} {D : zD} {O : Nat → Int32} {M : zM} {ou : Nat → Int64} {od : Nat → UInt64} {j : Nat}  {y : (Option Value ⊕ String) × px_H} {s : zI × Int64} {x : (zI × Int64) ⊕ (zI)}  (hx : fI_takeWord_b2 s.1 s.2 = some x) (hM : (Sum.elim (qI_takeWord_2 S xs C Y Γ D O M ou od j y) (fun X : zI => y = (((.inl none), (zH X C Y Γ D O M ou od j)) : (Option Value ⊕ String) × px_H))) x) : qI_takeWord_2 S xs C Y Γ D O M ou od j y s := by
  obtain ⟨I, a1⟩ := s
  have hk : pt_mt[277]? = some pt_r277 := rfl
  unfold fI_takeWord_b2 at hx
  try dsimp only at hx
  refine ev_ls (L' := [some (.ref 1), some (.long a1), none, none]) (st' := [.ref 1]) (pc' := 3) hk (.aload_n 0) 1 rfl rfl rfl rfl ?_
  refine ev_gf (.int (iF I 2)) 6 hk rfl rfl lk_input rfl rfl ?_
  refine ev_ls (L' := [some (.ref 1), some (.long a1), none, none]) (st' := [.ref 1, .int (iF I 2)]) (pc' := 7) hk (.aload_n 0) 1 rfl rfl rfl rfl ?_
  refine ev_gf (.int (iF I 1)) 10 hk rfl rfl lk_input rfl rfl ?_
  refine ev_d2 57 13 hk rfl rfl rfl rfl (px_cge hx (fun hc hx => ?_) (fun hc hx => ?_))
  · obtain ⟨X, hx2, hX⟩ := Option.map_eq_some_iff.mp hx
    clear hx; subst hX; have hx := hx2; clear hx2
    exact rI_takeWord_j57 hx hM 
  · refine ev_ls (L' := [some (.ref 1), some (.long a1), none, none]) (st' := [.ref 1]) (pc' := 14) hk (.aload_n 0) 1 rfl rfl rfl rfl ?_
    refine ev_gf (.ref 2) 17 hk rfl rfl lk_input rfl rfl ?_
    refine ev_ls (L' := [some (.ref 1), some (.long a1), none, none]) (st' := [.ref 1, .ref 2]) (pc' := 18) hk (.aload_n 0) 1 rfl rfl rfl rfl ?_
    refine ev_gf (.int (iF I 2)) 21 hk rfl rfl lk_input rfl rfl ?_
    obtain ⟨v14, hv14, hx⟩ := bnd_some hx
    refine ev_bal hv14 22 hk rfl lk_bytes rfl ?_
    refine ev_cs 271 1 [.int (b2i (fI_isLetter v14))] 25 hk rfl rfl (by decide) rfl rfl rfl (rI_isLetter rfl) rfl rfl rfl rfl ?_
    refine ev_d1 57 28 hk rfl rfl rfl rfl (px_beq hx (fun hc hx => ?_) (fun hc hx => ?_))
    · obtain ⟨X, hx2, hX⟩ := Option.map_eq_some_iff.mp hx
      clear hx; subst hX; have hx := hx2; clear hx2
      exact rI_takeWord_j57 hx hM 
    · refine ev_ls (L' := [some (.ref 1), some (.long a1), none, none]) (st' := [.long a1]) (pc' := 29) hk (.lload_n 1) 1 rfl rfl rfl rfl ?_
      refine ev_op (st' := [.int 8, .long a1]) (pc' := 31) hk (.bipush 8) 2 rfl rfl rfl ?_
      refine ev_op (st' := [.long (a1 <<< (Int32.toInt64 8 &&& 63))]) (pc' := 32) hk (.lshl) 1 rfl rfl rfl ?_
      refine ev_ls (L' := [some (.ref 1), some (.long a1), none, none]) (st' := [.ref 1, .long (a1 <<< (Int32.toInt64 8 &&& 63))]) (pc' := 33) hk (.aload_n 0) 1 rfl rfl rfl rfl ?_
      refine ev_gf (.ref 2) 36 hk rfl rfl lk_input rfl rfl ?_
      refine ev_ls (L' := [some (.ref 1), some (.long a1), none, none]) (st' := [.ref 1, .ref 2, .long (a1 <<< (Int32.toInt64 8 &&& 63))]) (pc' := 37) hk (.aload_n 0) 1 rfl rfl rfl rfl ?_
      refine ev_gf (.int (iF I 2)) 40 hk rfl rfl lk_input rfl rfl ?_
      obtain ⟨v15, hv15, hx⟩ := bnd_some hx
      refine ev_bal hv15 41 hk rfl lk_bytes rfl ?_
      refine ev_op (st' := [.long (Int32.toInt64 v15), .long (a1 <<< (Int32.toInt64 8 &&& 63))]) (pc' := 42) hk (.i2l) 1 rfl rfl rfl ?_
      refine ev_op (st' := [.long ((a1 <<< (Int32.toInt64 8 &&& 63)) ||| (Int32.toInt64 v15))]) (pc' := 43) hk (.lor) 1 rfl rfl rfl ?_
      refine ev_ls (L' := [some (.ref 1), some (.long ((a1 <<< (Int32.toInt64 8 &&& 63)) ||| (Int32.toInt64 v15))), none, none]) (st' := []) (pc' := 44) hk (.lstore_n 1) 1 rfl rfl rfl rfl ?_
      refine ev_ls (L' := [some (.ref 1), some (.long ((a1 <<< (Int32.toInt64 8 &&& 63)) ||| (Int32.toInt64 v15))), none, none]) (st' := [.ref 1]) (pc' := 45) hk (.aload_n 0) 1 rfl rfl rfl rfl ?_
      refine ev_op (st' := [.ref 1, .ref 1]) (pc' := 46) hk (.dup) 1 rfl rfl rfl ?_
      refine ev_gf (.int (iF I 2)) 49 hk rfl rfl lk_input rfl rfl ?_
      refine ev_op (st' := [.int 1, .int (iF I 2), .ref 1]) (pc' := 50) hk (.iconst 1) 1 rfl rfl rfl ?_
      refine ev_op (st' := [.int ((iF I 2) + 1), .ref 1]) (pc' := 51) hk (.iadd) 1 rfl rfl rfl ?_
      obtain ⟨I16, hI16, hx⟩ := bnd_some hx
      have hI16 := Option.some.inj hI16
      refine ev_pf 54 hk rfl rfl lk_input rfl rfl rfl (sf_3_2 hI16) rfl ?_
      refine ev_jp (pc' := 2) (st' := []) hk (.goto (-52)) 3 rfl rfl rfl rfl rfl ?_
      cases hx
      exact hM
set_option maxRecDepth 2000 in
theorem rI_takeWord {S : Nat} {xs : Nat → Int32} {I : zI} {C : zC} {Y : Nat → Int32} {Γ : Nat → zG} {D : zD} {O : Nat → Int32} {M : zM} {ou : Nat → Int64} {od : Nat → UInt64} {j : Nat}  {X : zI}   (hx : fI_takeWord I = some X) : Ev S xs 277 0 [some (.ref 1), none, none, none] [] (zH I C Y Γ D O M ou od j) (((.inl none), (zH X C Y Γ D O M ou od j)) : (Option Value ⊕ String) × px_H) := by
  generalize hM : (((.inl none), (zH X C Y Γ D O M ou od j)) : (Option Value ⊕ String) × px_H) = y
  replace hM := hM.symm
  have hk : pt_mt[277]? = some pt_r277 := rfl
  unfold fI_takeWord at hx
  refine ev_op (st' := [.long 0]) (pc' := 1) hk (.lconst 0) 1 rfl rfl rfl ?_
  refine ev_ls (L' := [some (.ref 1), some (.long 0), none, none]) (st' := []) (pc' := 2) hk (.lstore_n 1) 1 rfl rfl rfl rfl ?_
  exact ev_iter (qI_takeWord_2 S xs C Y Γ D O M ou od j _) (fun X : zI => y = (((.inl none), (zH X C Y Γ D O M ou od j)) : (Option Value ⊕ String) × px_H)) (fun s x hb hM => rI_takeWord_b2 hb hM) fu _ _ hx hM 
set_option maxRecDepth 2000 in
theorem rI_isDigit {S : Nat} {xs : Nat → Int32} {I : zI} {C : zC} {Y : Nat → Int32} {Γ : Nat → zG} {D : zD} {O : Nat → Int32} {M : zM} {ou : Nat → Int64} {od : Nat → UInt64} {j : Nat} {a0 : Int32} {X : Bool}   (hx : fI_isDigit a0 = X) : Ev S xs 270 0 [some (.int a0)] [] (zH I C Y Γ D O M ou od j) (((.inl (some (.int (b2i X)))), (zH I C Y Γ D O M ou od j)) : (Option Value ⊕ String) × px_H) := by
  generalize hM : (((.inl (some (.int (b2i X)))), (zH I C Y Γ D O M ou od j)) : (Option Value ⊕ String) × px_H) = y
  replace hM := hM.symm
  have hk : pt_mt[270]? = some pt_r270 := rfl
  unfold fI_isDigit at hx
  refine ev_ls (L' := [some (.int a0)]) (st' := [.int a0]) (pc' := 1) hk (.iload_n 0) 1 rfl rfl rfl rfl ?_
  refine ev_op (st' := [.int 48, .int a0]) (pc' := 3) hk (.bipush 48) 2 rfl rfl rfl ?_
  refine ev_d2 16 6 hk rfl rfl rfl rfl (px_clt hx (fun hc hx => ?_) (fun hc hx => ?_))
  · refine ev_op (st' := [.int 0]) (pc' := 17) hk (.iconst 0) 1 rfl rfl rfl ?_
    cases hx
    obtain rfl := hM
    exact ev_retZ false rfl hk rfl rfl
  · refine ev_ls (L' := [some (.int a0)]) (st' := [.int a0]) (pc' := 7) hk (.iload_n 0) 1 rfl rfl rfl rfl ?_
    refine ev_op (st' := [.int 57, .int a0]) (pc' := 9) hk (.bipush 57) 2 rfl rfl rfl ?_
    refine ev_d2 16 12 hk rfl rfl rfl rfl (px_cgt hx (fun hc hx => ?_) (fun hc hx => ?_))
    · refine ev_op (st' := [.int 0]) (pc' := 17) hk (.iconst 0) 1 rfl rfl rfl ?_
      cases hx
      obtain rfl := hM
      exact ev_retZ false rfl hk rfl rfl
    · refine ev_op (st' := [.int 1]) (pc' := 13) hk (.iconst 1) 1 rfl rfl rfl ?_
      refine ev_jp (pc' := 17) (st' := [.int 1]) hk (.goto 4) 3 rfl rfl rfl rfl rfl ?_
      cases hx
      obtain rfl := hM
      exact ev_retZ true rfl hk rfl rfl
def qI_takeNumber_2 (S : Nat) (xs : Nat → Int32) (C : zC) (Y : Nat → Int32) (Γ : Nat → zG) (D : zD) (O : Nat → Int32) (M : zM) (ou : Nat → Int64) (od : Nat → UInt64) (j : Nat) (y : (Option Value ⊕ String) × px_H) (s : zI × Int32) : Prop := Ev S xs 275 2 [some (.ref 1), some (.int s.2)] [] (zH s.1 C Y Γ D O M ou od j) y
set_option maxRecDepth 4000 in
theorem rI_takeNumber_j78 {S : Nat} {xs : Nat → Int32} {I : zI} {C : zC} {Y : Nat → Int32} {Γ : Nat → zG} {D : zD} {O : Nat → Int32} {M : zM} {ou : Nat → Int64} {od : Nat → UInt64} {j : Nat} {a1 : Int32} {a0t : Int32} {y : (Option Value ⊕ String) × px_H} {x : zI}  (hx : fI_takeNumber_j78 I a1 a0t = some x) (hM : (fun X : zI => y = (((.inl none), (zH X C Y Γ D O M ou od j)) : (Option Value ⊕ String) × px_H)) x)  : Ev S xs 275 78 [some (.ref 1), some (.int a1)] [.int a0t, .ref 1] (zH I C Y Γ D O M ou od j) y := by
  have hk : pt_mt[275]? = some pt_r275 := rfl
  unfold fI_takeNumber_j78 at hx
  obtain ⟨I11, hI11, hx⟩ := bnd_some hx
  have hI11 := Option.some.inj hI11
  refine ev_pf 81 hk rfl rfl lk_input rfl rfl rfl (sf_3_4 hI11) rfl ?_
  refine ev_ls (L' := [some (.ref 1), some (.int a1)]) (st' := [.ref 1]) (pc' := 82) hk (.aload_n 0) 1 rfl rfl rfl rfl ?_
  refine ev_ls (L' := [some (.ref 1), some (.int a1)]) (st' := [.int a1, .ref 1]) (pc' := 83) hk (.iload_n 1) 1 rfl rfl rfl rfl ?_
  obtain ⟨I12, hI12, hx⟩ := bnd_some hx
  have hI12 := Option.some.inj hI12
  refine ev_pf 86 hk rfl rfl lk_input rfl rfl rfl (sf_3_6 hI12) rfl ?_
  cases hx
  obtain rfl := hM
  exact ev_retv hk rfl rfl
set_option maxRecDepth 4000 in
theorem rI_takeNumber_j59 {S : Nat} {xs : Nat → Int32} {I : zI} {C : zC} {Y : Nat → Int32} {Γ : Nat → zG} {D : zD} {O : Nat → Int32} {M : zM} {ou : Nat → Int64} {od : Nat → UInt64} {j : Nat} {a1 : Int32} {y : (Option Value ⊕ String) × px_H} {x : zI}  (hx : fI_takeNumber_j59 I a1 = some x) (hM : (fun X : zI => y = (((.inl none), (zH X C Y Γ D O M ou od j)) : (Option Value ⊕ String) × px_H)) x)  : Ev S xs 275 59 [some (.ref 1), some (.int a1)] [] (zH I C Y Γ D O M ou od j) y := by
  have hk : pt_mt[275]? = some pt_r275 := rfl
  unfold fI_takeNumber_j59 at hx
  refine ev_ls (L' := [some (.ref 1), some (.int a1)]) (st' := [.ref 1]) (pc' := 60) hk (.aload_n 0) 1 rfl rfl rfl rfl ?_
  refine ev_ls (L' := [some (.ref 1), some (.int a1)]) (st' := [.ref 1, .ref 1]) (pc' := 61) hk (.aload_n 0) 1 rfl rfl rfl rfl ?_
  refine ev_gf (.int (iF I 2)) 64 hk rfl rfl lk_input rfl rfl ?_
  refine ev_ls (L' := [some (.ref 1), some (.int a1)]) (st' := [.ref 1, .int (iF I 2), .ref 1]) (pc' := 65) hk (.aload_n 0) 1 rfl rfl rfl rfl ?_
  refine ev_gf (.int (iF I 3)) 68 hk rfl rfl lk_input rfl rfl ?_
  refine ev_op (st' := [.int ((iF I 2) - (iF I 3)), .ref 1]) (pc' := 69) hk (.isub) 1 rfl rfl rfl ?_
  refine ev_op (st' := [.int 4, .int ((iF I 2) - (iF I 3)), .ref 1]) (pc' := 70) hk (.iconst 4) 1 rfl rfl rfl ?_
  refine ev_d2 77 73 hk rfl rfl rfl rfl (px_cgt hx (fun hc hx => ?_) (fun hc hx => ?_))
  · refine ev_op (st' := [.int 4, .ref 1]) (pc' := 78) hk (.iconst 4) 1 rfl rfl rfl ?_
    exact rI_takeNumber_j78 hx hM 
  · refine ev_op (st' := [.int 2, .ref 1]) (pc' := 74) hk (.iconst 2) 1 rfl rfl rfl ?_
    refine ev_jp (pc' := 78) (st' := [.int 2, .ref 1]) hk (.goto 4) 3 rfl rfl rfl rfl rfl ?_
    exact rI_takeNumber_j78 hx hM 
set_option maxRecDepth 4000 in
theorem rI_takeNumber_b2 {S : Nat} {xs : Nat → Int32} {C : zC} {Y : Nat → Int32} {Γ : Nat → zG} {D : zD} {O : Nat → Int32} {M : zM} {ou : Nat → Int64} {od : Nat → UInt64} {j : Nat}  {y : (Option Value ⊕ String) × px_H} {s : zI × Int32} {x : (zI × Int32) ⊕ (zI)}  (hx : fI_takeNumber_b2 s.1 s.2 = some x) (hM : (Sum.elim (qI_takeNumber_2 S xs C Y Γ D O M ou od j y) (fun X : zI => y = (((.inl none), (zH X C Y Γ D O M ou od j)) : (Option Value ⊕ String) × px_H))) x) : qI_takeNumber_2 S xs C Y Γ D O M ou od j y s := by
  obtain ⟨I, a1⟩ := s
  have hk : pt_mt[275]? = some pt_r275 := rfl
  unfold fI_takeNumber_b2 at hx
  try dsimp only at hx
  refine ev_ls (L' := [some (.ref 1), some (.int a1)]) (st' := [.ref 1]) (pc' := 3) hk (.aload_n 0) 1 rfl rfl rfl rfl ?_
  refine ev_gf (.int (iF I 2)) 6 hk rfl rfl lk_input rfl rfl ?_
  refine ev_ls (L' := [some (.ref 1), some (.int a1)]) (st' := [.ref 1, .int (iF I 2)]) (pc' := 7) hk (.aload_n 0) 1 rfl rfl rfl rfl ?_
  refine ev_gf (.int (iF I 1)) 10 hk rfl rfl lk_input rfl rfl ?_
  refine ev_d2 59 13 hk rfl rfl rfl rfl (px_cge hx (fun hc hx => ?_) (fun hc hx => ?_))
  · obtain ⟨X, hx2, hX⟩ := Option.map_eq_some_iff.mp hx
    clear hx; subst hX; have hx := hx2; clear hx2
    exact rI_takeNumber_j59 hx hM 
  · refine ev_ls (L' := [some (.ref 1), some (.int a1)]) (st' := [.ref 1]) (pc' := 14) hk (.aload_n 0) 1 rfl rfl rfl rfl ?_
    refine ev_gf (.ref 2) 17 hk rfl rfl lk_input rfl rfl ?_
    refine ev_ls (L' := [some (.ref 1), some (.int a1)]) (st' := [.ref 1, .ref 2]) (pc' := 18) hk (.aload_n 0) 1 rfl rfl rfl rfl ?_
    refine ev_gf (.int (iF I 2)) 21 hk rfl rfl lk_input rfl rfl ?_
    obtain ⟨v13, hv13, hx⟩ := bnd_some hx
    refine ev_bal hv13 22 hk rfl lk_bytes rfl ?_
    refine ev_cs 270 1 [.int (b2i (fI_isDigit v13))] 25 hk rfl rfl (by decide) rfl rfl rfl (rI_isDigit rfl) rfl rfl rfl rfl ?_
    refine ev_d1 59 28 hk rfl rfl rfl rfl (px_beq hx (fun hc hx => ?_) (fun hc hx => ?_))
    · obtain ⟨X, hx2, hX⟩ := Option.map_eq_some_iff.mp hx
      clear hx; subst hX; have hx := hx2; clear hx2
      exact rI_takeNumber_j59 hx hM 
    · refine ev_ls (L' := [some (.ref 1), some (.int a1)]) (st' := [.int a1]) (pc' := 29) hk (.iload_n 1) 1 rfl rfl rfl rfl ?_
      refine ev_op (st' := [.int 10, .int a1]) (pc' := 31) hk (.bipush 10) 2 rfl rfl rfl ?_
      refine ev_op (st' := [.int (a1 * 10)]) (pc' := 32) hk (.imul) 1 rfl rfl rfl ?_
      refine ev_ls (L' := [some (.ref 1), some (.int a1)]) (st' := [.ref 1, .int (a1 * 10)]) (pc' := 33) hk (.aload_n 0) 1 rfl rfl rfl rfl ?_
      refine ev_gf (.ref 2) 36 hk rfl rfl lk_input rfl rfl ?_
      refine ev_ls (L' := [some (.ref 1), some (.int a1)]) (st' := [.ref 1, .ref 2, .int (a1 * 10)]) (pc' := 37) hk (.aload_n 0) 1 rfl rfl rfl rfl ?_
      refine ev_gf (.int (iF I 2)) 40 hk rfl rfl lk_input rfl rfl ?_
      obtain ⟨v14, hv14, hx⟩ := bnd_some hx
      refine ev_bal hv14 41 hk rfl lk_bytes rfl ?_
      refine ev_op (st' := [.int ((a1 * 10) + v14)]) (pc' := 42) hk (.iadd) 1 rfl rfl rfl ?_
      refine ev_op (st' := [.int 48, .int ((a1 * 10) + v14)]) (pc' := 44) hk (.bipush 48) 2 rfl rfl rfl ?_
      refine ev_op (st' := [.int (((a1 * 10) + v14) - 48)]) (pc' := 45) hk (.isub) 1 rfl rfl rfl ?_
      refine ev_ls (L' := [some (.ref 1), some (.int (((a1 * 10) + v14) - 48))]) (st' := []) (pc' := 46) hk (.istore_n 1) 1 rfl rfl rfl rfl ?_
      refine ev_ls (L' := [some (.ref 1), some (.int (((a1 * 10) + v14) - 48))]) (st' := [.ref 1]) (pc' := 47) hk (.aload_n 0) 1 rfl rfl rfl rfl ?_
      refine ev_op (st' := [.ref 1, .ref 1]) (pc' := 48) hk (.dup) 1 rfl rfl rfl ?_
      refine ev_gf (.int (iF I 2)) 51 hk rfl rfl lk_input rfl rfl ?_
      refine ev_op (st' := [.int 1, .int (iF I 2), .ref 1]) (pc' := 52) hk (.iconst 1) 1 rfl rfl rfl ?_
      refine ev_op (st' := [.int ((iF I 2) + 1), .ref 1]) (pc' := 53) hk (.iadd) 1 rfl rfl rfl ?_
      obtain ⟨I15, hI15, hx⟩ := bnd_some hx
      have hI15 := Option.some.inj hI15
      refine ev_pf 56 hk rfl rfl lk_input rfl rfl rfl (sf_3_2 hI15) rfl ?_
      refine ev_jp (pc' := 2) (st' := []) hk (.goto (-54)) 3 rfl rfl rfl rfl rfl ?_
      cases hx
      exact hM
set_option maxRecDepth 2000 in
theorem rI_takeNumber {S : Nat} {xs : Nat → Int32} {I : zI} {C : zC} {Y : Nat → Int32} {Γ : Nat → zG} {D : zD} {O : Nat → Int32} {M : zM} {ou : Nat → Int64} {od : Nat → UInt64} {j : Nat}  {X : zI}   (hx : fI_takeNumber I = some X) : Ev S xs 275 0 [some (.ref 1), none] [] (zH I C Y Γ D O M ou od j) (((.inl none), (zH X C Y Γ D O M ou od j)) : (Option Value ⊕ String) × px_H) := by
  generalize hM : (((.inl none), (zH X C Y Γ D O M ou od j)) : (Option Value ⊕ String) × px_H) = y
  replace hM := hM.symm
  have hk : pt_mt[275]? = some pt_r275 := rfl
  unfold fI_takeNumber at hx
  refine ev_op (st' := [.int 0]) (pc' := 1) hk (.iconst 0) 1 rfl rfl rfl ?_
  refine ev_ls (L' := [some (.ref 1), some (.int 0)]) (st' := []) (pc' := 2) hk (.istore_n 1) 1 rfl rfl rfl rfl ?_
  exact ev_iter (qI_takeNumber_2 S xs C Y Γ D O M ou od j _) (fun X : zI => y = (((.inl none), (zH X C Y Γ D O M ou od j)) : (Option Value ⊕ String) × px_H)) (fun s x hb hM => rI_takeNumber_b2 hb hM) fu _ _ hx hM 
set_option maxRecDepth 4000 in
theorem rI_takeSign_j46 {S : Nat} {xs : Nat → Int32} {I : zI} {C : zC} {Y : Nat → Int32} {Γ : Nat → zG} {D : zD} {O : Nat → Int32} {M : zM} {ou : Nat → Int64} {od : Nat → UInt64} {j : Nat} {a0t : Int32} {y : (Option Value ⊕ String) × px_H} {x : zI}  (hx : fI_takeSign_j46 I a0t = some x) (hM : (fun X : zI => y = (((.inl none), (zH X C Y Γ D O M ou od j)) : (Option Value ⊕ String) × px_H)) x)  : Ev S xs 276 46 [some (.ref 1)] [.int a0t, .ref 1] (zH I C Y Γ D O M ou od j) y := by
  have hk : pt_mt[276]? = some pt_r276 := rfl
  unfold fI_takeSign_j46 at hx
  obtain ⟨I7, hI7, hx⟩ := bnd_some hx
  have hI7 := Option.some.inj hI7
  refine ev_pf 49 hk rfl rfl lk_input rfl rfl rfl (sf_3_4 hI7) rfl ?_
  refine ev_ls (L' := [some (.ref 1)]) (st' := [.ref 1]) (pc' := 50) hk (.aload_n 0) 1 rfl rfl rfl rfl ?_
  refine ev_op (st' := [.ref 1, .ref 1]) (pc' := 51) hk (.dup) 1 rfl rfl rfl ?_
  refine ev_gf (.int (iF I7 2)) 54 hk rfl rfl lk_input rfl rfl ?_
  refine ev_op (st' := [.int 1, .int (iF I7 2), .ref 1]) (pc' := 55) hk (.iconst 1) 1 rfl rfl rfl ?_
  refine ev_op (st' := [.int ((iF I7 2) + 1), .ref 1]) (pc' := 56) hk (.iadd) 1 rfl rfl rfl ?_
  obtain ⟨I8, hI8, hx⟩ := bnd_some hx
  have hI8 := Option.some.inj hI8
  refine ev_pf 59 hk rfl rfl lk_input rfl rfl rfl (sf_3_2 hI8) rfl ?_
  cases hx
  obtain rfl := hM
  exact ev_retv hk rfl rfl
set_option maxRecDepth 4000 in
theorem rI_takeSign_j41 {S : Nat} {xs : Nat → Int32} {I : zI} {C : zC} {Y : Nat → Int32} {Γ : Nat → zG} {D : zD} {O : Nat → Int32} {M : zM} {ou : Nat → Int64} {od : Nat → UInt64} {j : Nat}  {y : (Option Value ⊕ String) × px_H} {x : zI}  (hx : fI_takeSign_j41 I = some x) (hM : (fun X : zI => y = (((.inl none), (zH X C Y Γ D O M ou od j)) : (Option Value ⊕ String) × px_H)) x)  : Ev S xs 276 41 [some (.ref 1)] [.ref 1] (zH I C Y Γ D O M ou od j) y := by
  have hk : pt_mt[276]? = some pt_r276 := rfl
  unfold fI_takeSign_j41 at hx
  refine ev_op (st' := [.int 3, .ref 1]) (pc' := 42) hk (.iconst 3) 1 rfl rfl rfl ?_
  refine ev_jp (pc' := 46) (st' := [.int 3, .ref 1]) hk (.goto 4) 3 rfl rfl rfl rfl rfl ?_
  exact rI_takeSign_j46 hx hM 
set_option maxRecDepth 2000 in
theorem rI_takeSign {S : Nat} {xs : Nat → Int32} {I : zI} {C : zC} {Y : Nat → Int32} {Γ : Nat → zG} {D : zD} {O : Nat → Int32} {M : zM} {ou : Nat → Int64} {od : Nat → UInt64} {j : Nat}  {X : zI}   (hx : fI_takeSign I = some X) : Ev S xs 276 0 [some (.ref 1)] [] (zH I C Y Γ D O M ou od j) (((.inl none), (zH X C Y Γ D O M ou od j)) : (Option Value ⊕ String) × px_H) := by
  generalize hM : (((.inl none), (zH X C Y Γ D O M ou od j)) : (Option Value ⊕ String) × px_H) = y
  replace hM := hM.symm
  have hk : pt_mt[276]? = some pt_r276 := rfl
  unfold fI_takeSign at hx
  refine ev_ls (L' := [some (.ref 1)]) (st' := [.ref 1]) (pc' := 1) hk (.aload_n 0) 1 rfl rfl rfl rfl ?_
  refine ev_ls (L' := [some (.ref 1)]) (st' := [.ref 1, .ref 1]) (pc' := 2) hk (.aload_n 0) 1 rfl rfl rfl rfl ?_
  refine ev_gf (.ref 2) 5 hk rfl rfl lk_input rfl rfl ?_
  refine ev_ls (L' := [some (.ref 1)]) (st' := [.ref 1, .ref 2, .ref 1]) (pc' := 6) hk (.aload_n 0) 1 rfl rfl rfl rfl ?_
  refine ev_gf (.int (iF I 2)) 9 hk rfl rfl lk_input rfl rfl ?_
  obtain ⟨v9, hv9, hx⟩ := bnd_some hx
  refine ev_bal hv9 10 hk rfl lk_bytes rfl ?_
  obtain ⟨I10, hI10, hx⟩ := bnd_some hx
  have hI10 := Option.some.inj hI10
  refine ev_pf 13 hk rfl rfl lk_input rfl rfl rfl (sf_3_7 hI10) rfl ?_
  refine ev_ls (L' := [some (.ref 1)]) (st' := [.ref 1]) (pc' := 14) hk (.aload_n 0) 1 rfl rfl rfl rfl ?_
  refine ev_ls (L' := [some (.ref 1)]) (st' := [.ref 1, .ref 1]) (pc' := 15) hk (.aload_n 0) 1 rfl rfl rfl rfl ?_
  refine ev_gf (.int (iF I10 7)) 18 hk rfl rfl lk_input rfl rfl ?_
  refine ev_op (st' := [.int 59, .int (iF I10 7), .ref 1]) (pc' := 20) hk (.bipush 59) 2 rfl rfl rfl ?_
  refine ev_d2 41 23 hk rfl rfl rfl rfl (px_ceq hx (fun hc hx => ?_) (fun hc hx => ?_))
  · exact rI_takeSign_j41 hx hM 
  · refine ev_ls (L' := [some (.ref 1)]) (st' := [.ref 1, .ref 1]) (pc' := 24) hk (.aload_n 0) 1 rfl rfl rfl rfl ?_
    refine ev_gf (.int (iF I10 7)) 27 hk rfl rfl lk_input rfl rfl ?_
    refine ev_op (st' := [.int 40, .int (iF I10 7), .ref 1]) (pc' := 29) hk (.bipush 40) 2 rfl rfl rfl ?_
    refine ev_d2 41 32 hk rfl rfl rfl rfl (px_ceq hx (fun hc hx => ?_) (fun hc hx => ?_))
    · exact rI_takeSign_j41 hx hM 
    · refine ev_ls (L' := [some (.ref 1)]) (st' := [.ref 1, .ref 1]) (pc' := 33) hk (.aload_n 0) 1 rfl rfl rfl rfl ?_
      refine ev_gf (.int (iF I10 7)) 36 hk rfl rfl lk_input rfl rfl ?_
      refine ev_op (st' := [.int 41, .int (iF I10 7), .ref 1]) (pc' := 38) hk (.bipush 41) 2 rfl rfl rfl ?_
      refine ev_d2 45 41 hk rfl rfl rfl rfl (px_cne hx (fun hc hx => ?_) (fun hc hx => ?_))
      · refine ev_op (st' := [.int 4, .ref 1]) (pc' := 46) hk (.iconst 4) 1 rfl rfl rfl ?_
        exact rI_takeSign_j46 hx hM 
      · exact rI_takeSign_j41 hx hM 
def qI_next_0 (S : Nat) (xs : Nat → Int32) (C : zC) (Y : Nat → Int32) (Γ : Nat → zG) (D : zD) (O : Nat → Int32) (M : zM) (ou : Nat → Int64) (od : Nat → UInt64) (j : Nat) (y : (Option Value ⊕ String) × px_H) (s : zI) : Prop := Ev S xs 273 0 [some (.ref 1)] [] (zH s C Y Γ D O M ou od j) y
set_option maxRecDepth 4000 in
theorem rI_next_j39 {S : Nat} {xs : Nat → Int32} {I : zI} {C : zC} {Y : Nat → Int32} {Γ : Nat → zG} {D : zD} {O : Nat → Int32} {M : zM} {ou : Nat → Int64} {od : Nat → UInt64} {j : Nat}  {y : (Option Value ⊕ String) × px_H} {x : zI}  (hx : fI_next_j39 I = some x) (hM : (fun X : zI => y = (((.inl none), (zH X C Y Γ D O M ou od j)) : (Option Value ⊕ String) × px_H)) x)  : Ev S xs 273 39 [some (.ref 1)] [] (zH I C Y Γ D O M ou od j) y := by
  have hk : pt_mt[273]? = some pt_r273 := rfl
  unfold fI_next_j39 at hx
  refine ev_ls (L' := [some (.ref 1)]) (st' := [.ref 1]) (pc' := 40) hk (.aload_n 0) 1 rfl rfl rfl rfl ?_
  refine ev_ls (L' := [some (.ref 1)]) (st' := [.ref 1, .ref 1]) (pc' := 41) hk (.aload_n 0) 1 rfl rfl rfl rfl ?_
  refine ev_gf (.int (iF I 2)) 44 hk rfl rfl lk_input rfl rfl ?_
  obtain ⟨I8, hI8, hx⟩ := bnd_some hx
  have hI8 := Option.some.inj hI8
  refine ev_pf 47 hk rfl rfl lk_input rfl rfl rfl (sf_3_3 hI8) rfl ?_
  refine ev_ls (L' := [some (.ref 1)]) (st' := [.ref 1]) (pc' := 48) hk (.aload_n 0) 1 rfl rfl rfl rfl ?_
  refine ev_op (st' := [.long 0, .ref 1]) (pc' := 49) hk (.lconst 0) 1 rfl rfl rfl ?_
  obtain ⟨I9, hI9, hx⟩ := bnd_some hx
  have hI9 := Option.some.inj hI9
  refine ev_pf 52 hk rfl rfl lk_input rfl rfl rfl (sf_3_5 hI9) rfl ?_
  refine ev_ls (L' := [some (.ref 1)]) (st' := [.ref 1]) (pc' := 53) hk (.aload_n 0) 1 rfl rfl rfl rfl ?_
  refine ev_gf (.int (iF I9 2)) 56 hk rfl rfl lk_input rfl rfl ?_
  refine ev_ls (L' := [some (.ref 1)]) (st' := [.ref 1, .int (iF I9 2)]) (pc' := 57) hk (.aload_n 0) 1 rfl rfl rfl rfl ?_
  refine ev_gf (.int (iF I9 1)) 60 hk rfl rfl lk_input rfl rfl ?_
  refine ev_d2 71 63 hk rfl rfl rfl rfl (px_clt hx (fun hc hx => ?_) (fun hc hx => ?_))
  · refine ev_ls (L' := [some (.ref 1)]) (st' := [.ref 1]) (pc' := 72) hk (.aload_n 0) 1 rfl rfl rfl rfl ?_
    refine ev_gf (.ref 2) 75 hk rfl rfl lk_input rfl rfl ?_
    refine ev_ls (L' := [some (.ref 1)]) (st' := [.ref 1, .ref 2]) (pc' := 76) hk (.aload_n 0) 1 rfl rfl rfl rfl ?_
    refine ev_gf (.int (iF I9 2)) 79 hk rfl rfl lk_input rfl rfl ?_
    obtain ⟨v10, hv10, hx⟩ := bnd_some hx
    refine ev_bal hv10 80 hk rfl lk_bytes rfl ?_
    refine ev_cs 271 1 [.int (b2i (fI_isLetter v10))] 83 hk rfl rfl (by decide) rfl rfl rfl (rI_isLetter rfl) rfl rfl rfl rfl ?_
    refine ev_d1 93 86 hk rfl rfl rfl rfl (px_beq hx (fun hc hx => ?_) (fun hc hx => ?_))
    · refine ev_ls (L' := [some (.ref 1)]) (st' := [.ref 1]) (pc' := 94) hk (.aload_n 0) 1 rfl rfl rfl rfl ?_
      refine ev_gf (.ref 2) 97 hk rfl rfl lk_input rfl rfl ?_
      refine ev_ls (L' := [some (.ref 1)]) (st' := [.ref 1, .ref 2]) (pc' := 98) hk (.aload_n 0) 1 rfl rfl rfl rfl ?_
      refine ev_gf (.int (iF I9 2)) 101 hk rfl rfl lk_input rfl rfl ?_
      obtain ⟨v11, hv11, hx⟩ := bnd_some hx
      refine ev_bal hv11 102 hk rfl lk_bytes rfl ?_
      refine ev_cs 270 1 [.int (b2i (fI_isDigit v11))] 105 hk rfl rfl (by decide) rfl rfl rfl (rI_isDigit rfl) rfl rfl rfl rfl ?_
      refine ev_d1 115 108 hk rfl rfl rfl rfl (px_beq hx (fun hc hx => ?_) (fun hc hx => ?_))
      · refine ev_ls (L' := [some (.ref 1)]) (st' := [.ref 1]) (pc' := 116) hk (.aload_n 0) 1 rfl rfl rfl rfl ?_
        obtain ⟨I12, hc13, hx⟩ := bnd_some hx
        refine ev_cv 276 0 [] 119 hk rfl rfl rfl rfl lk_input rfl rfl rfl (rI_takeSign hc13) rfl rfl rfl rfl ?_
        cases hx
        obtain rfl := hM
        exact ev_retv hk rfl rfl
      · refine ev_ls (L' := [some (.ref 1)]) (st' := [.ref 1]) (pc' := 109) hk (.aload_n 0) 1 rfl rfl rfl rfl ?_
        obtain ⟨I14, hc15, hx⟩ := bnd_some hx
        refine ev_cv 275 0 [] 112 hk rfl rfl rfl rfl lk_input rfl rfl rfl (rI_takeNumber hc15) rfl rfl rfl rfl ?_
        refine ev_jp (pc' := 119) (st' := []) hk (.goto 7) 3 rfl rfl rfl rfl rfl ?_
        cases hx
        obtain rfl := hM
        exact ev_retv hk rfl rfl
    · refine ev_ls (L' := [some (.ref 1)]) (st' := [.ref 1]) (pc' := 87) hk (.aload_n 0) 1 rfl rfl rfl rfl ?_
      obtain ⟨I16, hc17, hx⟩ := bnd_some hx
      refine ev_cv 277 0 [] 90 hk rfl rfl rfl rfl lk_input rfl rfl rfl (rI_takeWord hc17) rfl rfl rfl rfl ?_
      refine ev_jp (pc' := 119) (st' := []) hk (.goto 29) 3 rfl rfl rfl rfl rfl ?_
      cases hx
      obtain rfl := hM
      exact ev_retv hk rfl rfl
  · refine ev_ls (L' := [some (.ref 1)]) (st' := [.ref 1]) (pc' := 64) hk (.aload_n 0) 1 rfl rfl rfl rfl ?_
    refine ev_op (st' := [.int 0, .ref 1]) (pc' := 65) hk (.iconst 0) 1 rfl rfl rfl ?_
    obtain ⟨I18, hI18, hx⟩ := bnd_some hx
    have hI18 := Option.some.inj hI18
    refine ev_pf 68 hk rfl rfl lk_input rfl rfl rfl (sf_3_4 hI18) rfl ?_
    refine ev_jp (pc' := 119) (st' := []) hk (.goto 51) 3 rfl rfl rfl rfl rfl ?_
    cases hx
    obtain rfl := hM
    exact ev_retv hk rfl rfl
set_option maxRecDepth 4000 in
theorem rI_next_b0 {S : Nat} {xs : Nat → Int32} {C : zC} {Y : Nat → Int32} {Γ : Nat → zG} {D : zD} {O : Nat → Int32} {M : zM} {ou : Nat → Int64} {od : Nat → UInt64} {j : Nat}  {y : (Option Value ⊕ String) × px_H} {s : zI} {x : (zI) ⊕ (zI)}  (hx : fI_next_b0 s = some x) (hM : (Sum.elim (qI_next_0 S xs C Y Γ D O M ou od j y) (fun X : zI => y = (((.inl none), (zH X C Y Γ D O M ou od j)) : (Option Value ⊕ String) × px_H))) x) : qI_next_0 S xs C Y Γ D O M ou od j y s := by
  revert hx
  generalize s = I
  intro hx
  have hk : pt_mt[273]? = some pt_r273 := rfl
  unfold fI_next_b0 at hx
  try dsimp only at hx
  refine ev_ls (L' := [some (.ref 1)]) (st' := [.ref 1]) (pc' := 1) hk (.aload_n 0) 1 rfl rfl rfl rfl ?_
  refine ev_gf (.int (iF I 2)) 4 hk rfl rfl lk_input rfl rfl ?_
  refine ev_ls (L' := [some (.ref 1)]) (st' := [.ref 1, .int (iF I 2)]) (pc' := 5) hk (.aload_n 0) 1 rfl rfl rfl rfl ?_
  refine ev_gf (.int (iF I 1)) 8 hk rfl rfl lk_input rfl rfl ?_
  refine ev_d2 39 11 hk rfl rfl rfl rfl (px_cge hx (fun hc hx => ?_) (fun hc hx => ?_))
  · obtain ⟨X, hx2, hX⟩ := Option.map_eq_some_iff.mp hx
    clear hx; subst hX; have hx := hx2; clear hx2
    exact rI_next_j39 hx hM 
  · refine ev_ls (L' := [some (.ref 1)]) (st' := [.ref 1]) (pc' := 12) hk (.aload_n 0) 1 rfl rfl rfl rfl ?_
    refine ev_gf (.ref 2) 15 hk rfl rfl lk_input rfl rfl ?_
    refine ev_ls (L' := [some (.ref 1)]) (st' := [.ref 1, .ref 2]) (pc' := 16) hk (.aload_n 0) 1 rfl rfl rfl rfl ?_
    refine ev_gf (.int (iF I 2)) 19 hk rfl rfl lk_input rfl rfl ?_
    obtain ⟨v19, hv19, hx⟩ := bnd_some hx
    refine ev_bal hv19 20 hk rfl lk_bytes rfl ?_
    refine ev_cs 269 1 [.int (b2i (fI_isBlank v19))] 23 hk rfl rfl (by decide) rfl rfl rfl (rI_isBlank rfl) rfl rfl rfl rfl ?_
    refine ev_d1 39 26 hk rfl rfl rfl rfl (px_beq hx (fun hc hx => ?_) (fun hc hx => ?_))
    · obtain ⟨X, hx2, hX⟩ := Option.map_eq_some_iff.mp hx
      clear hx; subst hX; have hx := hx2; clear hx2
      exact rI_next_j39 hx hM 
    · refine ev_ls (L' := [some (.ref 1)]) (st' := [.ref 1]) (pc' := 27) hk (.aload_n 0) 1 rfl rfl rfl rfl ?_
      refine ev_op (st' := [.ref 1, .ref 1]) (pc' := 28) hk (.dup) 1 rfl rfl rfl ?_
      refine ev_gf (.int (iF I 2)) 31 hk rfl rfl lk_input rfl rfl ?_
      refine ev_op (st' := [.int 1, .int (iF I 2), .ref 1]) (pc' := 32) hk (.iconst 1) 1 rfl rfl rfl ?_
      refine ev_op (st' := [.int ((iF I 2) + 1), .ref 1]) (pc' := 33) hk (.iadd) 1 rfl rfl rfl ?_
      obtain ⟨I20, hI20, hx⟩ := bnd_some hx
      have hI20 := Option.some.inj hI20
      refine ev_pf 36 hk rfl rfl lk_input rfl rfl rfl (sf_3_2 hI20) rfl ?_
      refine ev_jp (pc' := 0) (st' := []) hk (.goto (-36)) 3 rfl rfl rfl rfl rfl ?_
      cases hx
      exact hM
set_option maxRecDepth 2000 in
theorem rI_next {S : Nat} {xs : Nat → Int32} {I : zI} {C : zC} {Y : Nat → Int32} {Γ : Nat → zG} {D : zD} {O : Nat → Int32} {M : zM} {ou : Nat → Int64} {od : Nat → UInt64} {j : Nat}  {X : zI}   (hx : fI_next I = some X) : Ev S xs 273 0 [some (.ref 1)] [] (zH I C Y Γ D O M ou od j) (((.inl none), (zH X C Y Γ D O M ou od j)) : (Option Value ⊕ String) × px_H) := by
  generalize hM : (((.inl none), (zH X C Y Γ D O M ou od j)) : (Option Value ⊕ String) × px_H) = y
  replace hM := hM.symm
  have hk : pt_mt[273]? = some pt_r273 := rfl
  unfold fI_next at hx
  exact ev_iter (qI_next_0 S xs C Y Γ D O M ou od j _) (fun X : zI => y = (((.inl none), (zH X C Y Γ D O M ou od j)) : (Option Value ⊕ String) × px_H)) (fun s x hb hM => rI_next_b0 hb hM) fu _ _ hx hM 
set_option maxRecDepth 2000 in
theorem rI_isSign {S : Nat} {xs : Nat → Int32} {I : zI} {C : zC} {Y : Nat → Int32} {Γ : Nat → zG} {D : zD} {O : Nat → Int32} {M : zM} {ou : Nat → Int64} {od : Nat → UInt64} {j : Nat} {a1 : Int32} {X : Bool}   (hx : fI_isSign I a1 = X) : Ev S xs 272 0 [some (.ref 1), some (.int a1)] [] (zH I C Y Γ D O M ou od j) (((.inl (some (.int (b2i X)))), (zH I C Y Γ D O M ou od j)) : (Option Value ⊕ String) × px_H) := by
  generalize hM : (((.inl (some (.int (b2i X)))), (zH I C Y Γ D O M ou od j)) : (Option Value ⊕ String) × px_H) = y
  replace hM := hM.symm
  have hk : pt_mt[272]? = some pt_r272 := rfl
  unfold fI_isSign at hx
  refine ev_ls (L' := [some (.ref 1), some (.int a1)]) (st' := [.ref 1]) (pc' := 1) hk (.aload_n 0) 1 rfl rfl rfl rfl ?_
  refine ev_gf (.int (iF I 4)) 4 hk rfl rfl lk_input rfl rfl ?_
  refine ev_op (st' := [.int 3, .int (iF I 4)]) (pc' := 5) hk (.iconst 3) 1 rfl rfl rfl ?_
  refine ev_d2 20 8 hk rfl rfl rfl rfl (px_cne hx (fun hc hx => ?_) (fun hc hx => ?_))
  · refine ev_op (st' := [.int 0]) (pc' := 21) hk (.iconst 0) 1 rfl rfl rfl ?_
    cases hx
    obtain rfl := hM
    exact ev_retZ false rfl hk rfl rfl
  · refine ev_ls (L' := [some (.ref 1), some (.int a1)]) (st' := [.ref 1]) (pc' := 9) hk (.aload_n 0) 1 rfl rfl rfl rfl ?_
    refine ev_gf (.int (iF I 7)) 12 hk rfl rfl lk_input rfl rfl ?_
    refine ev_ls (L' := [some (.ref 1), some (.int a1)]) (st' := [.int a1, .int (iF I 7)]) (pc' := 13) hk (.iload_n 1) 1 rfl rfl rfl rfl ?_
    refine ev_d2 20 16 hk rfl rfl rfl rfl (px_cne hx (fun hc hx => ?_) (fun hc hx => ?_))
    · refine ev_op (st' := [.int 0]) (pc' := 21) hk (.iconst 0) 1 rfl rfl rfl ?_
      cases hx
      obtain rfl := hM
      exact ev_retZ false rfl hk rfl rfl
    · refine ev_op (st' := [.int 1]) (pc' := 17) hk (.iconst 1) 1 rfl rfl rfl ?_
      refine ev_jp (pc' := 21) (st' := [.int 1]) hk (.goto 4) 3 rfl rfl rfl rfl rfl ?_
      cases hx
      obtain rfl := hM
      exact ev_retZ true rfl hk rfl rfl
set_option maxRecDepth 2000 in
theorem rS_plan {S : Nat} {xs : Nat → Int32} {I : zI} {C : zC} {Y : Nat → Int32} {Γ : Nat → zG} {D : zD} {O : Nat → Int32} {M : zM} {ou : Nat → Int64} {od : Nat → UInt64} {j : Nat} {a1 : Int32} {a2 : Int32} {a3 : Int32} {a4 : Int32} {X : zC}   (hx : fS_plan C a1 a2 a3 a4 = some X) : Ev S xs 289 0 [some (.ref 3), some (.int a1), some (.int a2), some (.int a3), some (.int a4)] [] (zH I C Y Γ D O M ou od j) (((.inl none), (zH I X Y Γ D O M ou od j)) : (Option Value ⊕ String) × px_H) := by
  generalize hM : (((.inl none), (zH I X Y Γ D O M ou od j)) : (Option Value ⊕ String) × px_H) = y
  replace hM := hM.symm
  have hk : pt_mt[289]? = some pt_r289 := rfl
  unfold fS_plan at hx
  refine ev_ls (L' := [some (.ref 3), some (.int a1), some (.int a2), some (.int a3), some (.int a4)]) (st' := [.ref 3]) (pc' := 1) hk (.aload_n 0) 1 rfl rfl rfl rfl ?_
  refine ev_gf (.int (sF C 1)) 4 hk rfl rfl lk_script rfl rfl ?_
  refine ev_op (st' := [.int 40, .int (sF C 1)]) (pc' := 6) hk (.bipush 40) 2 rfl rfl rfl ?_
  refine ev_d2 10 9 hk rfl rfl rfl rfl (px_clt hx (fun hc hx => ?_) (fun hc hx => ?_))
  · refine ev_ls (L' := [some (.ref 3), some (.int a1), some (.int a2), some (.int a3), some (.int a4)]) (st' := [.ref 3]) (pc' := 11) hk (.aload_n 0) 1 rfl rfl rfl rfl ?_
    refine ev_gf (.ref 4) 14 hk rfl rfl lk_script rfl rfl ?_
    refine ev_ls (L' := [some (.ref 3), some (.int a1), some (.int a2), some (.int a3), some (.int a4)]) (st' := [.ref 3, .ref 4]) (pc' := 15) hk (.aload_n 0) 1 rfl rfl rfl rfl ?_
    refine ev_gf (.int (sF C 1)) 18 hk rfl rfl lk_script rfl rfl ?_
    refine ev_ls (L' := [some (.ref 3), some (.int a1), some (.int a2), some (.int a3), some (.int a4)]) (st' := [.int a1, .int (sF C 1), .ref 4]) (pc' := 19) hk (.iload_n 1) 1 rfl rfl rfl rfl ?_
    obtain ⟨A10, hA10, hx⟩ := bnd_some hx
    obtain ⟨C11, hC11, hx⟩ := bnd_some hx
    have hC11 := Option.some.inj hC11
    refine ev_ias hA10 20 hk rfl lk_sa2 (sa_s2 hC11) rfl ?_
    refine ev_ls (L' := [some (.ref 3), some (.int a1), some (.int a2), some (.int a3), some (.int a4)]) (st' := [.ref 3]) (pc' := 21) hk (.aload_n 0) 1 rfl rfl rfl rfl ?_
    refine ev_gf (.ref 5) 24 hk rfl rfl lk_script rfl rfl ?_
    refine ev_ls (L' := [some (.ref 3), some (.int a1), some (.int a2), some (.int a3), some (.int a4)]) (st' := [.ref 3, .ref 5]) (pc' := 25) hk (.aload_n 0) 1 rfl rfl rfl rfl ?_
    refine ev_gf (.int (sF C11 1)) 28 hk rfl rfl lk_script rfl rfl ?_
    refine ev_ls (L' := [some (.ref 3), some (.int a1), some (.int a2), some (.int a3), some (.int a4)]) (st' := [.int a2, .int (sF C11 1), .ref 5]) (pc' := 29) hk (.iload_n 2) 1 rfl rfl rfl rfl ?_
    obtain ⟨A12, hA12, hx⟩ := bnd_some hx
    obtain ⟨C13, hC13, hx⟩ := bnd_some hx
    have hC13 := Option.some.inj hC13
    refine ev_ias hA12 30 hk rfl lk_sa3 (sa_s3 hC13) rfl ?_
    refine ev_ls (L' := [some (.ref 3), some (.int a1), some (.int a2), some (.int a3), some (.int a4)]) (st' := [.ref 3]) (pc' := 31) hk (.aload_n 0) 1 rfl rfl rfl rfl ?_
    refine ev_gf (.ref 6) 34 hk rfl rfl lk_script rfl rfl ?_
    refine ev_ls (L' := [some (.ref 3), some (.int a1), some (.int a2), some (.int a3), some (.int a4)]) (st' := [.ref 3, .ref 6]) (pc' := 35) hk (.aload_n 0) 1 rfl rfl rfl rfl ?_
    refine ev_gf (.int (sF C13 1)) 38 hk rfl rfl lk_script rfl rfl ?_
    refine ev_ls (L' := [some (.ref 3), some (.int a1), some (.int a2), some (.int a3), some (.int a4)]) (st' := [.int a3, .int (sF C13 1), .ref 6]) (pc' := 39) hk (.iload_n 3) 1 rfl rfl rfl rfl ?_
    obtain ⟨A14, hA14, hx⟩ := bnd_some hx
    obtain ⟨C15, hC15, hx⟩ := bnd_some hx
    have hC15 := Option.some.inj hC15
    refine ev_ias hA14 40 hk rfl lk_sa4 (sa_s4 hC15) rfl ?_
    refine ev_ls (L' := [some (.ref 3), some (.int a1), some (.int a2), some (.int a3), some (.int a4)]) (st' := [.ref 3]) (pc' := 41) hk (.aload_n 0) 1 rfl rfl rfl rfl ?_
    refine ev_gf (.ref 7) 44 hk rfl rfl lk_script rfl rfl ?_
    refine ev_ls (L' := [some (.ref 3), some (.int a1), some (.int a2), some (.int a3), some (.int a4)]) (st' := [.ref 3, .ref 7]) (pc' := 45) hk (.aload_n 0) 1 rfl rfl rfl rfl ?_
    refine ev_gf (.int (sF C15 1)) 48 hk rfl rfl lk_script rfl rfl ?_
    refine ev_ls (L' := [some (.ref 3), some (.int a1), some (.int a2), some (.int a3), some (.int a4)]) (st' := [.int a4, .int (sF C15 1), .ref 7]) (pc' := 50) hk (.iload 4) 2 rfl rfl rfl rfl ?_
    obtain ⟨A16, hA16, hx⟩ := bnd_some hx
    obtain ⟨C17, hC17, hx⟩ := bnd_some hx
    have hC17 := Option.some.inj hC17
    refine ev_ias hA16 51 hk rfl lk_sa5 (sa_s5 hC17) rfl ?_
    refine ev_ls (L' := [some (.ref 3), some (.int a1), some (.int a2), some (.int a3), some (.int a4)]) (st' := [.ref 3]) (pc' := 52) hk (.aload_n 0) 1 rfl rfl rfl rfl ?_
    refine ev_op (st' := [.ref 3, .ref 3]) (pc' := 53) hk (.dup) 1 rfl rfl rfl ?_
    refine ev_gf (.int (sF C17 1)) 56 hk rfl rfl lk_script rfl rfl ?_
    refine ev_op (st' := [.int 1, .int (sF C17 1), .ref 3]) (pc' := 57) hk (.iconst 1) 1 rfl rfl rfl ?_
    refine ev_op (st' := [.int ((sF C17 1) + 1), .ref 3]) (pc' := 58) hk (.iadd) 1 rfl rfl rfl ?_
    obtain ⟨C18, hC18, hx⟩ := bnd_some hx
    have hC18 := Option.some.inj hC18
    refine ev_pf 61 hk rfl rfl lk_script rfl rfl rfl (sf_5_1 hC18) rfl ?_
    cases hx
    obtain rfl := hM
    exact ev_retv hk rfl rfl
  · cases hx
    obtain rfl := hM
    exact ev_retv hk rfl rfl

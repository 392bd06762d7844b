/-! THE ROWS of the methods: each function is what the pure machine does (11) -/
set_option maxRecDepth 2000 in
theorem rI_hasRoom {S : Nat} {xs : Nat → Int32} {I : zI} {C : zC} {Y : Nat → Int32} {Γ : Nat → zG} {D : zD} {O : Nat → Int32} {M : zM} {ou : Nat → Int64} {od : Nat → UInt64} {j : Nat} {a1 : Int32} {X : Bool}   (hx : fI_hasRoom I a1 = X) : Ev S xs 267 0 [some (.ref 1), some (.int a1)] [] (zH I C Y Γ D O M ou od j) (((.inl (some (.int (b2i X)))), (zH I C Y Γ D O M ou od j)) : (Option Value ⊕ String) × px_H) := by
  generalize hM : (((.inl (some (.int (b2i X)))), (zH I C Y Γ D O M ou od j)) : (Option Value ⊕ String) × px_H) = y
  replace hM := hM.symm
  have hk : pt_mt[267]? = some pt_r267 := rfl
  unfold fI_hasRoom at hx
  refine ev_ls (L' := [some (.ref 1), some (.int a1)]) (st' := [.ref 1]) (pc' := 1) hk (.aload_n 0) 1 rfl rfl rfl rfl ?_
  refine ev_gf (.int (iF I 1)) 4 hk rfl rfl lk_input rfl rfl ?_
  refine ev_ls (L' := [some (.ref 1), some (.int a1)]) (st' := [.int a1, .int (iF I 1)]) (pc' := 5) hk (.iload_n 1) 1 rfl rfl rfl rfl ?_
  refine ev_op (st' := [.int ((iF I 1) + a1)]) (pc' := 6) hk (.iadd) 1 rfl rfl rfl ?_
  refine ev_op (st' := [.int 600, .int ((iF I 1) + a1)]) (pc' := 9) hk (.sipush 600) 3 rfl rfl rfl ?_
  refine ev_d2 16 12 hk rfl rfl rfl rfl (px_cgt hx (fun hc hx => ?_) (fun hc hx => ?_))
  · refine ev_op (st' := [.int 0]) (pc' := 17) hk (.iconst 0) 1 rfl rfl rfl ?_
    cases hx
    obtain rfl := hM
    exact ev_retZ false rfl hk rfl rfl
  · refine ev_op (st' := [.int 1]) (pc' := 13) hk (.iconst 1) 1 rfl rfl rfl ?_
    refine ev_jp (pc' := 17) (st' := [.int 1]) hk (.goto 4) 3 rfl rfl rfl rfl rfl ?_
    cases hx
    obtain rfl := hM
    exact ev_retZ true rfl hk rfl rfl
def qI_append_3 (S : Nat) (xs : Nat → Int32) (C : zC) (Y : Nat → Int32) (Γ : Nat → zG) (D : zD) (O : Nat → Int32) (M : zM) (ou : Nat → Int64) (od : Nat → UInt64) (j : Nat) (a1 : Int32) (y : (Option Value ⊕ String) × px_H) (s : zI × Int32) : Prop := Ev S xs 262 3 [some (.ref 1), some (.int a1), some (.int s.2)] [] (zH s.1 C Y Γ D O M ou od j) y
set_option maxRecDepth 4000 in
theorem rI_append_b3 {S : Nat} {xs : Nat → Int32} {C : zC} {Y : Nat → Int32} {Γ : Nat → zG} {D : zD} {O : Nat → Int32} {M : zM} {ou : Nat → Int64} {od : Nat → UInt64} {j : Nat} {a1 : Int32} {y : (Option Value ⊕ String) × px_H} {s : zI × Int32} {x : (zI × Int32) ⊕ (zI)}  (hx : fI_append_b3 a1 s.1 s.2 = some x) (hM : (Sum.elim (qI_append_3 S xs C Y Γ D O M ou od j a1 y) (fun X : zI => y = (((.inl none), (zH X C Y Γ D O M ou od j)) : (Option Value ⊕ String) × px_H))) x) : qI_append_3 S xs C Y Γ D O M ou od j a1 y s := by
  obtain ⟨I, a2⟩ := s
  have hk : pt_mt[262]? = some pt_r262 := rfl
  unfold fI_append_b3 at hx
  try dsimp only at hx
  refine ev_ls (L' := [some (.ref 1), some (.int a1), some (.int a2)]) (st' := [.int a2]) (pc' := 4) hk (.iload_n 2) 1 rfl rfl rfl rfl ?_
  refine ev_d1 46 7 hk rfl rfl rfl rfl (px_clt hx (fun hc hx => ?_) (fun hc hx => ?_))
  · cases hx
    obtain rfl := hM
    exact ev_retv hk rfl rfl
  · refine ev_ls (L' := [some (.ref 1), some (.int a1), some (.int a2)]) (st' := [.ref 1]) (pc' := 8) hk (.aload_n 0) 1 rfl rfl rfl rfl ?_
    refine ev_gf (.int (iF I 1)) 11 hk rfl rfl lk_input rfl rfl ?_
    refine ev_op (st' := [.int 600, .int (iF I 1)]) (pc' := 14) hk (.sipush 600) 3 rfl rfl rfl ?_
    refine ev_d2 46 17 hk rfl rfl rfl rfl (px_cge hx (fun hc hx => ?_) (fun hc hx => ?_))
    · cases hx
      obtain rfl := hM
      exact ev_retv hk rfl rfl
    · refine ev_ls (L' := [some (.ref 1), some (.int a1), some (.int a2)]) (st' := [.ref 1]) (pc' := 18) hk (.aload_n 0) 1 rfl rfl rfl rfl ?_
      refine ev_gf (.ref 2) 21 hk rfl rfl lk_input rfl rfl ?_
      refine ev_ls (L' := [some (.ref 1), some (.int a1), some (.int a2)]) (st' := [.ref 1, .ref 2]) (pc' := 22) hk (.aload_n 0) 1 rfl rfl rfl rfl ?_
      refine ev_gf (.int (iF I 1)) 25 hk rfl rfl lk_input rfl rfl ?_
      refine ev_ls (L' := [some (.ref 1), some (.int a1), some (.int a2)]) (st' := [.int a1, .int (iF I 1), .ref 2]) (pc' := 26) hk (.iload_n 1) 1 rfl rfl rfl rfl ?_
      refine ev_ls (L' := [some (.ref 1), some (.int a1), some (.int a2)]) (st' := [.int a2, .int a1, .int (iF I 1), .ref 2]) (pc' := 27) hk (.iload_n 2) 1 rfl rfl rfl rfl ?_
      refine ev_op (st' := [.int (Int32.toUInt32 a1 >>> (Int32.toUInt32 a2 &&& Int32.toUInt32 31)).toInt32, .int (iF I 1), .ref 2]) (pc' := 28) hk (.iushr) 1 rfl rfl rfl ?_
      refine ev_op (st' := [.int (Int8.toInt32 (Int32.toInt8 (Int32.toUInt32 a1 >>> (Int32.toUInt32 a2 &&& Int32.toUInt32 31)).toInt32)), .int (iF I 1), .ref 2]) (pc' := 29) hk (.i2b) 1 rfl rfl rfl ?_
      obtain ⟨A7, hA7, hx⟩ := bnd_some hx
      obtain ⟨I8, hI8, hx⟩ := bnd_some hx
      have hI8 := Option.some.inj hI8
      refine ev_bas hA7 30 hk rfl lk_bytes (sa_i hI8) rfl ?_
      refine ev_ls (L' := [some (.ref 1), some (.int a1), some (.int a2)]) (st' := [.ref 1]) (pc' := 31) hk (.aload_n 0) 1 rfl rfl rfl rfl ?_
      refine ev_op (st' := [.ref 1, .ref 1]) (pc' := 32) hk (.dup) 1 rfl rfl rfl ?_
      refine ev_gf (.int (iF I8 1)) 35 hk rfl rfl lk_input rfl rfl ?_
      refine ev_op (st' := [.int 1, .int (iF I8 1), .ref 1]) (pc' := 36) hk (.iconst 1) 1 rfl rfl rfl ?_
      refine ev_op (st' := [.int ((iF I8 1) + 1), .ref 1]) (pc' := 37) hk (.iadd) 1 rfl rfl rfl ?_
      obtain ⟨I9, hI9, hx⟩ := bnd_some hx
      have hI9 := Option.some.inj hI9
      refine ev_pf 40 hk rfl rfl lk_input rfl rfl rfl (sf_3_1 hI9) rfl ?_
      refine ev_ls (L' := [some (.ref 1), some (.int a1), some (.int (a2 + (-8)))]) (st' := []) (pc' := 43) hk (.iinc 2 (-8)) 3 rfl rfl rfl rfl ?_
      refine ev_jp (pc' := 3) (st' := []) hk (.goto (-40)) 3 rfl rfl rfl rfl rfl ?_
      cases hx
      exact hM
set_option maxRecDepth 2000 in
theorem rI_append {S : Nat} {xs : Nat → Int32} {I : zI} {C : zC} {Y : Nat → Int32} {Γ : Nat → zG} {D : zD} {O : Nat → Int32} {M : zM} {ou : Nat → Int64} {od : Nat → UInt64} {j : Nat} {a1 : Int32} {X : zI}   (hx : fI_append I a1 = some X) : Ev S xs 262 0 [some (.ref 1), some (.int a1), none] [] (zH I C Y Γ D O M ou od j) (((.inl none), (zH X C Y Γ D O M ou od j)) : (Option Value ⊕ String) × px_H) := by
  generalize hM : (((.inl none), (zH X C Y Γ D O M ou od j)) : (Option Value ⊕ String) × px_H) = y
  replace hM := hM.symm
  have hk : pt_mt[262]? = some pt_r262 := rfl
  unfold fI_append at hx
  refine ev_op (st' := [.int 24]) (pc' := 2) hk (.bipush 24) 2 rfl rfl rfl ?_
  refine ev_ls (L' := [some (.ref 1), some (.int a1), some (.int 24)]) (st' := []) (pc' := 3) hk (.istore_n 2) 1 rfl rfl rfl rfl ?_
  exact ev_iter (qI_append_3 S xs C Y Γ D O M ou od j a1 _) (fun X : zI => y = (((.inl none), (zH X C Y Γ D O M ou od j)) : (Option Value ⊕ String) × px_H)) (fun s x hb hM => rI_append_b3 hb hM) fu _ _ hx hM 
set_option maxRecDepth 2000 in
theorem rX_feed {S : Nat} {xs : Nat → Int32} {I : zI} {C : zC} {Y : Nat → Int32} {Γ : Nat → zG} {D : zD} {O : Nat → Int32} {M : zM} {ou : Nat → Int64} {od : Nat → UInt64} {j : Nat} {a1 : Int32} {a2 : Int32} {a3 : Int32} {a4 : Int32} {a5 : Int32} {X : (Int32 ⊕ String) × zI}   (hx : fX_feed I a1 a2 a3 a4 a5 = some X) : Ev S xs 312 0 [some (.ref 0), some (.int a1), some (.int a2), some (.int a3), some (.int a4), some (.int a5)] [] (zH I C Y Γ D O M ou od j) (Sum.elim (fun v => ((.inl (some (.int v))), (zH X.2 C Y Γ D O M ou od j))) (fun E => (.inr E, (zH X.2 C Y Γ D O M ou od (j + 1)))) X.1 : (Option Value ⊕ String) × px_H) := by
  generalize hM : (Sum.elim (fun v => ((.inl (some (.int v))), (zH X.2 C Y Γ D O M ou od j))) (fun E => (.inr E, (zH X.2 C Y Γ D O M ou od (j + 1)))) X.1 : (Option Value ⊕ String) × px_H) = y
  replace hM := hM.symm
  have hk : pt_mt[312]? = some pt_r312 := rfl
  unfold fX_feed at hx
  refine ev_ls (L' := [some (.ref 0), some (.int a1), some (.int a2), some (.int a3), some (.int a4), some (.int a5)]) (st' := [.ref 0]) (pc' := 1) hk (.aload_n 0) 1 rfl rfl rfl rfl ?_
  refine ev_gf (.ref 1) 4 hk rfl rfl lk_dh rfl rfl ?_
  refine ev_op (st' := [.int 20, .ref 1]) (pc' := 6) hk (.bipush 20) 2 rfl rfl rfl ?_
  refine ev_cv 267 1 [.int (b2i (fI_hasRoom I 20))] 9 hk rfl rfl rfl rfl lk_input rfl rfl rfl (rI_hasRoom rfl) rfl rfl rfl rfl ?_
  refine ev_d1 22 12 hk rfl rfl rfl rfl (px_bne hx (fun hc hx => ?_) (fun hc hx => ?_))
  · refine ev_ls (L' := [some (.ref 0), some (.int a1), some (.int a2), some (.int a3), some (.int a4), some (.int a5)]) (st' := [.ref 0]) (pc' := 23) hk (.aload_n 0) 1 rfl rfl rfl rfl ?_
    refine ev_gf (.ref 1) 26 hk rfl rfl lk_dh rfl rfl ?_
    refine ev_ls (L' := [some (.ref 0), some (.int a1), some (.int a2), some (.int a3), some (.int a4), some (.int a5)]) (st' := [.int a1, .ref 1]) (pc' := 27) hk (.iload_n 1) 1 rfl rfl rfl rfl ?_
    obtain ⟨I1, hc2, hx⟩ := bnd_some hx
    refine ev_cv 262 1 [] 30 hk rfl rfl rfl rfl lk_input rfl rfl rfl (rI_append hc2) rfl rfl rfl rfl ?_
    refine ev_ls (L' := [some (.ref 0), some (.int a1), some (.int a2), some (.int a3), some (.int a4), some (.int a5)]) (st' := [.ref 0]) (pc' := 31) hk (.aload_n 0) 1 rfl rfl rfl rfl ?_
    refine ev_gf (.ref 1) 34 hk rfl rfl lk_dh rfl rfl ?_
    refine ev_ls (L' := [some (.ref 0), some (.int a1), some (.int a2), some (.int a3), some (.int a4), some (.int a5)]) (st' := [.int a2, .ref 1]) (pc' := 35) hk (.iload_n 2) 1 rfl rfl rfl rfl ?_
    obtain ⟨I3, hc4, hx⟩ := bnd_some hx
    refine ev_cv 262 1 [] 38 hk rfl rfl rfl rfl lk_input rfl rfl rfl (rI_append hc4) rfl rfl rfl rfl ?_
    refine ev_ls (L' := [some (.ref 0), some (.int a1), some (.int a2), some (.int a3), some (.int a4), some (.int a5)]) (st' := [.ref 0]) (pc' := 39) hk (.aload_n 0) 1 rfl rfl rfl rfl ?_
    refine ev_gf (.ref 1) 42 hk rfl rfl lk_dh rfl rfl ?_
    refine ev_ls (L' := [some (.ref 0), some (.int a1), some (.int a2), some (.int a3), some (.int a4), some (.int a5)]) (st' := [.int a3, .ref 1]) (pc' := 43) hk (.iload_n 3) 1 rfl rfl rfl rfl ?_
    obtain ⟨I5, hc6, hx⟩ := bnd_some hx
    refine ev_cv 262 1 [] 46 hk rfl rfl rfl rfl lk_input rfl rfl rfl (rI_append hc6) rfl rfl rfl rfl ?_
    refine ev_ls (L' := [some (.ref 0), some (.int a1), some (.int a2), some (.int a3), some (.int a4), some (.int a5)]) (st' := [.ref 0]) (pc' := 47) hk (.aload_n 0) 1 rfl rfl rfl rfl ?_
    refine ev_gf (.ref 1) 50 hk rfl rfl lk_dh rfl rfl ?_
    refine ev_ls (L' := [some (.ref 0), some (.int a1), some (.int a2), some (.int a3), some (.int a4), some (.int a5)]) (st' := [.int a4, .ref 1]) (pc' := 52) hk (.iload 4) 2 rfl rfl rfl rfl ?_
    obtain ⟨I7, hc8, hx⟩ := bnd_some hx
    refine ev_cv 262 1 [] 55 hk rfl rfl rfl rfl lk_input rfl rfl rfl (rI_append hc8) rfl rfl rfl rfl ?_
    refine ev_ls (L' := [some (.ref 0), some (.int a1), some (.int a2), some (.int a3), some (.int a4), some (.int a5)]) (st' := [.ref 0]) (pc' := 56) hk (.aload_n 0) 1 rfl rfl rfl rfl ?_
    refine ev_gf (.ref 1) 59 hk rfl rfl lk_dh rfl rfl ?_
    refine ev_ls (L' := [some (.ref 0), some (.int a1), some (.int a2), some (.int a3), some (.int a4), some (.int a5)]) (st' := [.int a5, .ref 1]) (pc' := 61) hk (.iload 5) 2 rfl rfl rfl rfl ?_
    obtain ⟨I9, hc10, hx⟩ := bnd_some hx
    refine ev_cv 262 1 [] 64 hk rfl rfl rfl rfl lk_input rfl rfl rfl (rI_append hc10) rfl rfl rfl rfl ?_
    refine ev_ls (L' := [some (.ref 0), some (.int a1), some (.int a2), some (.int a3), some (.int a4), some (.int a5)]) (st' := [.ref 0]) (pc' := 65) hk (.aload_n 0) 1 rfl rfl rfl rfl ?_
    refine ev_gf (.ref 1) 68 hk rfl rfl lk_dh rfl rfl ?_
    refine ev_gf (.int (iF I9 1)) 71 hk rfl rfl lk_input rfl rfl ?_
    cases hx
    obtain rfl := hM
    exact ev_retI hk rfl rfl
  · cases hx
    obtain rfl := hM
    exact ev_tw hk rfl (by rfl) rfl zH_j
set_option maxRecDepth 2000 in
theorem rw_feed {S : Nat} {xs : Nat → Int32} {I : zI} {C : zC} {Y : Nat → Int32} {Γ : Nat → zG} {D : zD} {O : Nat → Int32} {M : zM} {ou : Nat → Int64} {od : Nat → UInt64} {j : Nat} {a1 : Int32} {a2 : Int32} {a3 : Int32} {a4 : Int32} {a5 : Int32} {X : Int32 × zI × (Nat → Int64) × Nat}   (hx : fw_feed I ou j a1 a2 a3 a4 a5 = some X) : Ev S xs 377 0 [some (.ref 0), some (.int a1), some (.int a2), some (.int a3), some (.int a4), some (.int a5), some (.ref 261), none] [] (zH I C Y Γ D O M ou od j) (((.inl (some (.int X.1))), (zH X.2.1 C Y Γ D O M X.2.2.1 od X.2.2.2)) : (Option Value ⊕ String) × px_H) := by
  generalize hM : (((.inl (some (.int X.1))), (zH X.2.1 C Y Γ D O M X.2.2.1 od X.2.2.2)) : (Option Value ⊕ String) × px_H) = y
  replace hM := hM.symm
  have hk : pt_mt[377]? = some pt_r377 := rfl
  unfold fw_feed at hx
  refine ev_ls (L' := [some (.ref 0), some (.int a1), some (.int a2), some (.int a3), some (.int a4), some (.int a5), some (.ref 261), none]) (st' := [.ref 261]) (pc' := 2) hk (.aload 6) 2 rfl rfl rfl rfl ?_
  refine ev_op (st' := [.int 0, .ref 261]) (pc' := 3) hk (.iconst 0) 1 rfl rfl rfl ?_
  refine ev_ls (L' := [some (.ref 0), some (.int a1), some (.int a2), some (.int a3), some (.int a4), some (.int a5), some (.ref 261), none]) (st' := [.ref 0, .int 0, .ref 261]) (pc' := 4) hk (.aload_n 0) 1 rfl rfl rfl rfl ?_
  refine ev_ls (L' := [some (.ref 0), some (.int a1), some (.int a2), some (.int a3), some (.int a4), some (.int a5), some (.ref 261), none]) (st' := [.int a1, .ref 0, .int 0, .ref 261]) (pc' := 5) hk (.iload_n 1) 1 rfl rfl rfl rfl ?_
  refine ev_ls (L' := [some (.ref 0), some (.int a1), some (.int a2), some (.int a3), some (.int a4), some (.int a5), some (.ref 261), none]) (st' := [.int a2, .int a1, .ref 0, .int 0, .ref 261]) (pc' := 6) hk (.iload_n 2) 1 rfl rfl rfl rfl ?_
  refine ev_ls (L' := [some (.ref 0), some (.int a1), some (.int a2), some (.int a3), some (.int a4), some (.int a5), some (.ref 261), none]) (st' := [.int a3, .int a2, .int a1, .ref 0, .int 0, .ref 261]) (pc' := 7) hk (.iload_n 3) 1 rfl rfl rfl rfl ?_
  refine ev_ls (L' := [some (.ref 0), some (.int a1), some (.int a2), some (.int a3), some (.int a4), some (.int a5), some (.ref 261), none]) (st' := [.int a4, .int a3, .int a2, .int a1, .ref 0, .int 0, .ref 261]) (pc' := 9) hk (.iload 4) 2 rfl rfl rfl rfl ?_
  refine ev_ls (L' := [some (.ref 0), some (.int a1), some (.int a2), some (.int a3), some (.int a4), some (.int a5), some (.ref 261), none]) (st' := [.int a5, .int a4, .int a3, .int a2, .int a1, .ref 0, .int 0, .ref 261]) (pc' := 11) hk (.iload 5) 2 rfl rfl rfl rfl ?_
  obtain ⟨r7, I2, hc3, hx⟩ := bnd2_some hx
  rcases r7 with v5 | E4
  · simp only [Sum.elim_inl] at hx
    refine ev_cv 312 5 [.int v5, .int 0, .ref 261] 14 hk rfl rfl rfl rfl lk_dh rfl rfl rfl (rX_feed hc3) rfl rfl rfl rfl ?_
    refine ev_op (st' := [.long (Int32.toInt64 v5), .int 0, .ref 261]) (pc' := 15) hk (.i2l) 1 rfl rfl rfl ?_
    obtain ⟨ou6, hou6, hx⟩ := bnd_some hx
    have hou6 := Option.some.inj hou6
    refine ev_las (A := (vp_updL ou 0 (Int32.toInt64 v5))) rfl 16 hk rfl lk_ou (sa_ou hou6) rfl ?_
    refine ev_jp (pc' := 23) (st' := []) hk (.goto 7) 3 rfl rfl rfl rfl rfl ?_
    refine ev_op (st' := [.int 0]) (pc' := 24) hk (.iconst 0) 1 rfl rfl rfl ?_
    cases hx
    obtain rfl := hM
    exact ev_retI hk rfl rfl
  · simp only [Sum.elim_inr] at hx
    rcases ite_or hx with ⟨hE, hx⟩ | ⟨hE, hx⟩
    · subst hE
      refine ev_cvC 312 5 21 hk rfl rfl rfl rfl lk_dh rfl rfl rfl (t := 19) (by decide +kernel) (L' := [some (.ref 0), some (.int a1), some (.int a2), some (.int a3), some (.int a4), some (.int a5), some (.ref 261), none]) rfl (rX_feed hc3) rfl rfl ?_
      refine ev_op (st' := [.int 1]) (pc' := 22) hk (.iconst 1) 1 rfl rfl rfl ?_
      cases hx
      obtain rfl := hM
      exact ev_retI hk rfl rfl
    cases hx
def qM_four_3 (S : Nat) (xs : Nat → Int32) (I : zI) (C : zC) (Y : Nat → Int32) (Γ : Nat → zG) (D : zD) (O : Nat → Int32) (ou : Nat → Int64) (od : Nat → UInt64) (j : Nat) (a1 : Int32) (y : (Option Value ⊕ String) × px_H) (s : zM × Int32) : Prop := Ev S xs 56 3 [some (.ref 247), some (.int a1), some (.int s.2)] [] (zH I C Y Γ D O s.1 ou od j) y
set_option maxRecDepth 4000 in
theorem rM_four_b3 {S : Nat} {xs : Nat → Int32} {I : zI} {C : zC} {Y : Nat → Int32} {Γ : Nat → zG} {D : zD} {O : Nat → Int32} {ou : Nat → Int64} {od : Nat → UInt64} {j : Nat} {a1 : Int32} {y : (Option Value ⊕ String) × px_H} {s : zM × Int32} {x : (zM × Int32) ⊕ (zM)}  (hx : fM_four_b3 a1 s.1 s.2 = some x) (hM : (Sum.elim (qM_four_3 S xs I C Y Γ D O ou od j a1 y) (fun X : zM => y = (((.inl none), (zH I C Y Γ D O X ou od j)) : (Option Value ⊕ String) × px_H))) x) : qM_four_3 S xs I C Y Γ D O ou od j a1 y s := by
  obtain ⟨M, a2⟩ := s
  have hk : pt_mt[56]? = some pt_r56 := rfl
  unfold fM_four_b3 at hx
  try dsimp only at hx
  refine ev_ls (L' := [some (.ref 247), some (.int a1), some (.int a2)]) (st' := [.int a2]) (pc' := 4) hk (.iload_n 2) 1 rfl rfl rfl rfl ?_
  refine ev_d1 39 7 hk rfl rfl rfl rfl (px_clt hx (fun hc hx => ?_) (fun hc hx => ?_))
  · cases hx
    obtain rfl := hM
    exact ev_retv hk rfl rfl
  · refine ev_ls (L' := [some (.ref 247), some (.int a1), some (.int a2)]) (st' := [.ref 247]) (pc' := 8) hk (.aload_n 0) 1 rfl rfl rfl rfl ?_
    refine ev_gf (.ref 248) 11 hk rfl rfl lk_model rfl rfl ?_
    refine ev_ls (L' := [some (.ref 247), some (.int a1), some (.int a2)]) (st' := [.ref 247, .ref 248]) (pc' := 12) hk (.aload_n 0) 1 rfl rfl rfl rfl ?_
    refine ev_gf (.int (mF M 2)) 15 hk rfl rfl lk_model rfl rfl ?_
    refine ev_ls (L' := [some (.ref 247), some (.int a1), some (.int a2)]) (st' := [.int a1, .int (mF M 2), .ref 248]) (pc' := 16) hk (.iload_n 1) 1 rfl rfl rfl rfl ?_
    refine ev_ls (L' := [some (.ref 247), some (.int a1), some (.int a2)]) (st' := [.int a2, .int a1, .int (mF M 2), .ref 248]) (pc' := 17) hk (.iload_n 2) 1 rfl rfl rfl rfl ?_
    refine ev_op (st' := [.int (a1 >>> (a2 &&& 31)), .int (mF M 2), .ref 248]) (pc' := 18) hk (.ishr) 1 rfl rfl rfl ?_
    refine ev_op (st' := [.int 255, .int (a1 >>> (a2 &&& 31)), .int (mF M 2), .ref 248]) (pc' := 21) hk (.sipush 255) 3 rfl rfl rfl ?_
    refine ev_op (st' := [.int ((a1 >>> (a2 &&& 31)) &&& 255), .int (mF M 2), .ref 248]) (pc' := 22) hk (.iand) 1 rfl rfl rfl ?_
    obtain ⟨A7, hA7, hx⟩ := bnd_some hx
    obtain ⟨M8, hM8, hx⟩ := bnd_some hx
    have hM8 := Option.some.inj hM8
    refine ev_ias hA7 23 hk rfl lk_m248 (sa_m248 hM8) rfl ?_
    refine ev_ls (L' := [some (.ref 247), some (.int a1), some (.int a2)]) (st' := [.ref 247]) (pc' := 24) hk (.aload_n 0) 1 rfl rfl rfl rfl ?_
    refine ev_op (st' := [.ref 247, .ref 247]) (pc' := 25) hk (.dup) 1 rfl rfl rfl ?_
    refine ev_gf (.int (mF M8 2)) 28 hk rfl rfl lk_model rfl rfl ?_
    refine ev_op (st' := [.int 1, .int (mF M8 2), .ref 247]) (pc' := 29) hk (.iconst 1) 1 rfl rfl rfl ?_
    refine ev_op (st' := [.int ((mF M8 2) + 1), .ref 247]) (pc' := 30) hk (.iadd) 1 rfl rfl rfl ?_
    obtain ⟨M9, hM9, hx⟩ := bnd_some hx
    have hM9 := Option.some.inj hM9
    refine ev_pf 33 hk rfl rfl lk_model rfl rfl rfl (sf_8_2 hM9) rfl ?_
    refine ev_ls (L' := [some (.ref 247), some (.int a1), some (.int (a2 + (-8)))]) (st' := []) (pc' := 36) hk (.iinc 2 (-8)) 3 rfl rfl rfl rfl ?_
    refine ev_jp (pc' := 3) (st' := []) hk (.goto (-33)) 3 rfl rfl rfl rfl rfl ?_
    cases hx
    exact hM
set_option maxRecDepth 2000 in
theorem rM_four {S : Nat} {xs : Nat → Int32} {I : zI} {C : zC} {Y : Nat → Int32} {Γ : Nat → zG} {D : zD} {O : Nat → Int32} {M : zM} {ou : Nat → Int64} {od : Nat → UInt64} {j : Nat} {a1 : Int32} {X : zM}   (hx : fM_four M a1 = some X) : Ev S xs 56 0 [some (.ref 247), some (.int a1), none] [] (zH I C Y Γ D O M ou od j) (((.inl none), (zH I C Y Γ D O X ou od j)) : (Option Value ⊕ String) × px_H) := by
  generalize hM : (((.inl none), (zH I C Y Γ D O X ou od j)) : (Option Value ⊕ String) × px_H) = y
  replace hM := hM.symm
  have hk : pt_mt[56]? = some pt_r56 := rfl
  unfold fM_four at hx
  refine ev_op (st' := [.int 24]) (pc' := 2) hk (.bipush 24) 2 rfl rfl rfl ?_
  refine ev_ls (L' := [some (.ref 247), some (.int a1), some (.int 24)]) (st' := []) (pc' := 3) hk (.istore_n 2) 1 rfl rfl rfl rfl ?_
  exact ev_iter (qM_four_3 S xs I C Y Γ D O ou od j a1 _) (fun X : zM => y = (((.inl none), (zH I C Y Γ D O X ou od j)) : (Option Value ⊕ String) × px_H)) (fun s x hb hM => rM_four_b3 hb hM) fu _ _ hx hM 
set_option maxRecDepth 4000 in
theorem rM_feed_j19 {S : Nat} {xs : Nat → Int32} {I : zI} {C : zC} {Y : Nat → Int32} {Γ : Nat → zG} {D : zD} {O : Nat → Int32} {M : zM} {ou : Nat → Int64} {od : Nat → UInt64} {j : Nat} {a1 : Int32} {a2 : Int32} {a3 : Int32} {a4 : Int32} {a5 : Int32} {a0t : Bool} {y : (Option Value ⊕ String) × px_H} {x : Int32 × zM}  (hx : fM_feed_j19 M a1 a2 a3 a4 a5 a0t = some x) (hM : (fun X : Int32 × zM => y = (((.inl (some (.int X.1))), (zH I C Y Γ D O X.2 ou od j)) : (Option Value ⊕ String) × px_H)) x)  : Ev S xs 53 19 [some (.ref 247), some (.int a1), some (.int a2), some (.int a3), some (.int a4), some (.int a5)] [.int (b2i a0t), .ref 247] (zH I C Y Γ D O M ou od j) y := by
  have hk : pt_mt[53]? = some pt_r53 := rfl
  unfold fM_feed_j19 at hx
  obtain ⟨v2, M1, hc3, hx⟩ := bnd2_some hx
  refine ev_cv 59 1 [.int (b2i v2)] 22 hk rfl rfl rfl rfl lk_model rfl rfl rfl (rM_goes hc3) rfl rfl rfl rfl ?_
  refine ev_d1 27 25 hk rfl rfl rfl rfl (px_bne hx (fun hc hx => ?_) (fun hc hx => ?_))
  · refine ev_ls (L' := [some (.ref 247), some (.int a1), some (.int a2), some (.int a3), some (.int a4), some (.int a5)]) (st' := [.ref 247]) (pc' := 28) hk (.aload_n 0) 1 rfl rfl rfl rfl ?_
    refine ev_ls (L' := [some (.ref 247), some (.int a1), some (.int a2), some (.int a3), some (.int a4), some (.int a5)]) (st' := [.int a1, .ref 247]) (pc' := 29) hk (.iload_n 1) 1 rfl rfl rfl rfl ?_
    obtain ⟨M4, hc5, hx⟩ := bnd_some hx
    refine ev_cv 56 1 [] 32 hk rfl rfl rfl rfl lk_model rfl rfl rfl (rM_four hc5) rfl rfl rfl rfl ?_
    refine ev_ls (L' := [some (.ref 247), some (.int a1), some (.int a2), some (.int a3), some (.int a4), some (.int a5)]) (st' := [.ref 247]) (pc' := 33) hk (.aload_n 0) 1 rfl rfl rfl rfl ?_
    refine ev_ls (L' := [some (.ref 247), some (.int a1), some (.int a2), some (.int a3), some (.int a4), some (.int a5)]) (st' := [.int a2, .ref 247]) (pc' := 34) hk (.iload_n 2) 1 rfl rfl rfl rfl ?_
    obtain ⟨M6, hc7, hx⟩ := bnd_some hx
    refine ev_cv 56 1 [] 37 hk rfl rfl rfl rfl lk_model rfl rfl rfl (rM_four hc7) rfl rfl rfl rfl ?_
    refine ev_ls (L' := [some (.ref 247), some (.int a1), some (.int a2), some (.int a3), some (.int a4), some (.int a5)]) (st' := [.ref 247]) (pc' := 38) hk (.aload_n 0) 1 rfl rfl rfl rfl ?_
    refine ev_ls (L' := [some (.ref 247), some (.int a1), some (.int a2), some (.int a3), some (.int a4), some (.int a5)]) (st' := [.int a3, .ref 247]) (pc' := 39) hk (.iload_n 3) 1 rfl rfl rfl rfl ?_
    obtain ⟨M8, hc9, hx⟩ := bnd_some hx
    refine ev_cv 56 1 [] 42 hk rfl rfl rfl rfl lk_model rfl rfl rfl (rM_four hc9) rfl rfl rfl rfl ?_
    refine ev_ls (L' := [some (.ref 247), some (.int a1), some (.int a2), some (.int a3), some (.int a4), some (.int a5)]) (st' := [.ref 247]) (pc' := 43) hk (.aload_n 0) 1 rfl rfl rfl rfl ?_
    refine ev_ls (L' := [some (.ref 247), some (.int a1), some (.int a2), some (.int a3), some (.int a4), some (.int a5)]) (st' := [.int a4, .ref 247]) (pc' := 45) hk (.iload 4) 2 rfl rfl rfl rfl ?_
    obtain ⟨M10, hc11, hx⟩ := bnd_some hx
    refine ev_cv 56 1 [] 48 hk rfl rfl rfl rfl lk_model rfl rfl rfl (rM_four hc11) rfl rfl rfl rfl ?_
    refine ev_ls (L' := [some (.ref 247), some (.int a1), some (.int a2), some (.int a3), some (.int a4), some (.int a5)]) (st' := [.ref 247]) (pc' := 49) hk (.aload_n 0) 1 rfl rfl rfl rfl ?_
    refine ev_ls (L' := [some (.ref 247), some (.int a1), some (.int a2), some (.int a3), some (.int a4), some (.int a5)]) (st' := [.int a5, .ref 247]) (pc' := 51) hk (.iload 5) 2 rfl rfl rfl rfl ?_
    obtain ⟨M12, hc13, hx⟩ := bnd_some hx
    refine ev_cv 56 1 [] 54 hk rfl rfl rfl rfl lk_model rfl rfl rfl (rM_four hc13) rfl rfl rfl rfl ?_
    refine ev_ls (L' := [some (.ref 247), some (.int a1), some (.int a2), some (.int a3), some (.int a4), some (.int a5)]) (st' := [.ref 247]) (pc' := 55) hk (.aload_n 0) 1 rfl rfl rfl rfl ?_
    refine ev_gf (.int (mF M12 2)) 58 hk rfl rfl lk_model rfl rfl ?_
    cases hx
    obtain rfl := hM
    exact ev_retI hk rfl rfl
  · refine ev_op (st' := [.int 0]) (pc' := 26) hk (.iconst 0) 1 rfl rfl rfl ?_
    cases hx
    obtain rfl := hM
    exact ev_retI hk rfl rfl
set_option maxRecDepth 2000 in
theorem rM_feed {S : Nat} {xs : Nat → Int32} {I : zI} {C : zC} {Y : Nat → Int32} {Γ : Nat → zG} {D : zD} {O : Nat → Int32} {M : zM} {ou : Nat → Int64} {od : Nat → UInt64} {j : Nat} {a1 : Int32} {a2 : Int32} {a3 : Int32} {a4 : Int32} {a5 : Int32} {X : Int32 × zM}   (hx : fM_feed M a1 a2 a3 a4 a5 = some X) : Ev S xs 53 0 [some (.ref 247), some (.int a1), some (.int a2), some (.int a3), some (.int a4), some (.int a5)] [] (zH I C Y Γ D O M ou od j) (((.inl (some (.int X.1))), (zH I C Y Γ D O X.2 ou od j)) : (Option Value ⊕ String) × px_H) := by
  generalize hM : (((.inl (some (.int X.1))), (zH I C Y Γ D O X.2 ou od j)) : (Option Value ⊕ String) × px_H) = y
  replace hM := hM.symm
  have hk : pt_mt[53]? = some pt_r53 := rfl
  unfold fM_feed at hx
  refine ev_ls (L' := [some (.ref 247), some (.int a1), some (.int a2), some (.int a3), some (.int a4), some (.int a5)]) (st' := [.ref 247]) (pc' := 1) hk (.aload_n 0) 1 rfl rfl rfl rfl ?_
  refine ev_ls (L' := [some (.ref 247), some (.int a1), some (.int a2), some (.int a3), some (.int a4), some (.int a5)]) (st' := [.ref 247, .ref 247]) (pc' := 2) hk (.aload_n 0) 1 rfl rfl rfl rfl ?_
  refine ev_gf (.int (mF M 2)) 5 hk rfl rfl lk_model rfl rfl ?_
  refine ev_op (st' := [.int 20, .int (mF M 2), .ref 247]) (pc' := 7) hk (.bipush 20) 2 rfl rfl rfl ?_
  refine ev_op (st' := [.int ((mF M 2) + 20), .ref 247]) (pc' := 8) hk (.iadd) 1 rfl rfl rfl ?_
  refine ev_op (st' := [.int 600, .int ((mF M 2) + 20), .ref 247]) (pc' := 11) hk (.sipush 600) 3 rfl rfl rfl ?_
  refine ev_d2 18 14 hk rfl rfl rfl rfl (px_cgt hx (fun hc hx => ?_) (fun hc hx => ?_))
  · refine ev_op (st' := [.int 0, .ref 247]) (pc' := 19) hk (.iconst 0) 1 rfl rfl rfl ?_
    exact rM_feed_j19 hx hM 
  · refine ev_op (st' := [.int 1, .ref 247]) (pc' := 15) hk (.iconst 1) 1 rfl rfl rfl ?_
    refine ev_jp (pc' := 19) (st' := [.int 1, .ref 247]) hk (.goto 4) 3 rfl rfl rfl rfl rfl ?_
    exact rM_feed_j19 hx hM 
def qw_law_28 (S : Nat) (xs : Nat → Int32) (y : (Option Value ⊕ String) × px_H) (s : zI × zC × (Nat → Int32) × (Nat → zG) × zD × (Nat → Int32) × zM × (Nat → Int64) × (Nat → UInt64) × Nat × Int32) : Prop := ∀ (u6 : Option Value) (u7 : Option Value) (hu7 : px_cz u7 = true) (u8 : Option Value), Ev S xs 412 28 [some (.retAddr 0), some (.ref 0), some (.ref 247), some (.ref 261), some (.ref 262), some (.int s.2.2.2.2.2.2.2.2.2.2), u6, u7, u8, none] [] (zH s.1 s.2.1 s.2.2.1 s.2.2.2.1 s.2.2.2.2.1 s.2.2.2.2.2.1 s.2.2.2.2.2.2.1 s.2.2.2.2.2.2.2.1 s.2.2.2.2.2.2.2.2.1 s.2.2.2.2.2.2.2.2.2.1) y
set_option maxRecDepth 4000 in
theorem rw_law_j288 {S : Nat} {xs : Nat → Int32} {I : zI} {C : zC} {Y : Nat → Int32} {Γ : Nat → zG} {D : zD} {O : Nat → Int32} {M : zM} {ou : Nat → Int64} {od : Nat → UInt64} {j : Nat} {a5 : Int32} {y : (Option Value ⊕ String) × px_H} {x : (zI × zC × (Nat → Int32) × (Nat → zG) × zD × (Nat → Int32) × zM × (Nat → Int64) × (Nat → UInt64) × Nat × Int32) ⊕ (Bool × zI × zC × (Nat → Int32) × (Nat → zG) × zD × (Nat → Int32) × zM × (Nat → Int64) × (Nat → UInt64) × Nat)}  (hx : fw_law_j288 S xs I C Y Γ D O M ou od j a5 = some x) (hM : (Sum.elim (qw_law_28 S xs y) (fun X : Bool × zI × zC × (Nat → Int32) × (Nat → zG) × zD × (Nat → Int32) × zM × (Nat → Int64) × (Nat → UInt64) × Nat => y = (((.inl (some (.int (b2i X.1)))), (zH X.2.1 X.2.2.1 X.2.2.2.1 X.2.2.2.2.1 X.2.2.2.2.2.1 X.2.2.2.2.2.2.1 X.2.2.2.2.2.2.2.1 X.2.2.2.2.2.2.2.2.1 X.2.2.2.2.2.2.2.2.2.1 X.2.2.2.2.2.2.2.2.2.2)) : (Option Value ⊕ String) × px_H))) x) (u6 : Option Value) (u7 : Option Value) (hu7 : px_cz u7 = true) (u8 : Option Value) : Ev S xs 412 288 [some (.retAddr 0), some (.ref 0), some (.ref 247), some (.ref 261), some (.ref 262), some (.int a5), u6, u7, u8, none] [] (zH I C Y Γ D O M ou od j) y := by
  have hk : pt_mt[412]? = some pt_r412 := rfl
  unfold fw_law_j288 at hx
  refine ev_ls (L' := [some (.retAddr 0), some (.ref 0), some (.ref 247), some (.ref 261), some (.ref 262), some (.int a5), u6, u7, u8, none]) (st' := [.ref 0]) (pc' := 289) hk (.aload_n 1) 1 rfl rfl rfl rfl ?_
  refine ev_ls (L' := [some (.retAddr 0), some (.ref 0), some (.ref 247), some (.ref 261), some (.ref 262), some (.int a5), u6, u7, u8, none]) (st' := [.retAddr 0, .ref 0]) (pc' := 290) hk (.aload_n 0) 1 rfl rfl rfl rfl ?_
  refine ev_ls (L' := [some (.retAddr 0), some (.ref 0), some (.ref 247), some (.ref 261), some (.ref 262), some (.int a5), u6, u7, u8, none]) (st' := [.int a5, .retAddr 0, .ref 0]) (pc' := 292) hk (.iload 5) 2 rfl rfl rfl rfl ?_
  refine ev_op (st' := [.int 1, .int a5, .retAddr 0, .ref 0]) (pc' := 293) hk (.iconst 1) 1 rfl rfl rfl ?_
  refine ev_op (st' := [.int (a5 + 1), .retAddr 0, .ref 0]) (pc' := 294) hk (.iadd) 1 rfl rfl rfl ?_
  obtain ⟨v497, hv497, hx⟩ := bnd_some hx
  refine ev_sal hv497 295 hk rfl rfl ?_
  refine ev_ls (L' := [some (.retAddr 0), some (.ref 0), some (.ref 247), some (.ref 261), some (.ref 262), some (.int a5), u6, u7, u8, none]) (st' := [.retAddr 0, .int v497, .ref 0]) (pc' := 296) hk (.aload_n 0) 1 rfl rfl rfl rfl ?_
  refine ev_ls (L' := [some (.retAddr 0), some (.ref 0), some (.ref 247), some (.ref 261), some (.ref 262), some (.int a5), u6, u7, u8, none]) (st' := [.int a5, .retAddr 0, .int v497, .ref 0]) (pc' := 298) hk (.iload 5) 2 rfl rfl rfl rfl ?_
  refine ev_op (st' := [.int 2, .int a5, .retAddr 0, .int v497, .ref 0]) (pc' := 299) hk (.iconst 2) 1 rfl rfl rfl ?_
  refine ev_op (st' := [.int (a5 + 2), .retAddr 0, .int v497, .ref 0]) (pc' := 300) hk (.iadd) 1 rfl rfl rfl ?_
  obtain ⟨v498, hv498, hx⟩ := bnd_some hx
  refine ev_sal hv498 301 hk rfl rfl ?_
  refine ev_ls (L' := [some (.retAddr 0), some (.ref 0), some (.ref 247), some (.ref 261), some (.ref 262), some (.int a5), u6, u7, u8, none]) (st' := [.retAddr 0, .int v498, .int v497, .ref 0]) (pc' := 302) hk (.aload_n 0) 1 rfl rfl rfl rfl ?_
  refine ev_ls (L' := [some (.retAddr 0), some (.ref 0), some (.ref 247), some (.ref 261), some (.ref 262), some (.int a5), u6, u7, u8, none]) (st' := [.int a5, .retAddr 0, .int v498, .int v497, .ref 0]) (pc' := 304) hk (.iload 5) 2 rfl rfl rfl rfl ?_
  refine ev_op (st' := [.int 3, .int a5, .retAddr 0, .int v498, .int v497, .ref 0]) (pc' := 305) hk (.iconst 3) 1 rfl rfl rfl ?_
  refine ev_op (st' := [.int (a5 + 3), .retAddr 0, .int v498, .int v497, .ref 0]) (pc' := 306) hk (.iadd) 1 rfl rfl rfl ?_
  obtain ⟨v499, hv499, hx⟩ := bnd_some hx
  refine ev_sal hv499 307 hk rfl rfl ?_
  refine ev_ls (L' := [some (.retAddr 0), some (.ref 0), some (.ref 247), some (.ref 261), some (.ref 262), some (.int a5), u6, u7, u8, none]) (st' := [.retAddr 0, .int v499, .int v498, .int v497, .ref 0]) (pc' := 308) hk (.aload_n 0) 1 rfl rfl rfl rfl ?_
  refine ev_ls (L' := [some (.retAddr 0), some (.ref 0), some (.ref 247), some (.ref 261), some (.ref 262), some (.int a5), u6, u7, u8, none]) (st' := [.int a5, .retAddr 0, .int v499, .int v498, .int v497, .ref 0]) (pc' := 310) hk (.iload 5) 2 rfl rfl rfl rfl ?_
  refine ev_op (st' := [.int 4, .int a5, .retAddr 0, .int v499, .int v498, .int v497, .ref 0]) (pc' := 311) hk (.iconst 4) 1 rfl rfl rfl ?_
  refine ev_op (st' := [.int (a5 + 4), .retAddr 0, .int v499, .int v498, .int v497, .ref 0]) (pc' := 312) hk (.iadd) 1 rfl rfl rfl ?_
  obtain ⟨v500, hv500, hx⟩ := bnd_some hx
  refine ev_sal hv500 313 hk rfl rfl ?_
  refine ev_ls (L' := [some (.retAddr 0), some (.ref 0), some (.ref 247), some (.ref 261), some (.ref 262), some (.int a5), u6, u7, u8, none]) (st' := [.retAddr 0, .int v500, .int v499, .int v498, .int v497, .ref 0]) (pc' := 314) hk (.aload_n 0) 1 rfl rfl rfl rfl ?_
  refine ev_ls (L' := [some (.retAddr 0), some (.ref 0), some (.ref 247), some (.ref 261), some (.ref 262), some (.int a5), u6, u7, u8, none]) (st' := [.int a5, .retAddr 0, .int v500, .int v499, .int v498, .int v497, .ref 0]) (pc' := 316) hk (.iload 5) 2 rfl rfl rfl rfl ?_
  refine ev_op (st' := [.int 5, .int a5, .retAddr 0, .int v500, .int v499, .int v498, .int v497, .ref 0]) (pc' := 317) hk (.iconst 5) 1 rfl rfl rfl ?_
  refine ev_op (st' := [.int (a5 + 5), .retAddr 0, .int v500, .int v499, .int v498, .int v497, .ref 0]) (pc' := 318) hk (.iadd) 1 rfl rfl rfl ?_
  obtain ⟨v501, hv501, hx⟩ := bnd_some hx
  refine ev_sal hv501 319 hk rfl rfl ?_
  refine ev_ls (L' := [some (.retAddr 0), some (.ref 0), some (.ref 247), some (.ref 261), some (.ref 262), some (.int a5), u6, u7, u8, none]) (st' := [.ref 261, .int v501, .int v500, .int v499, .int v498, .int v497, .ref 0]) (pc' := 320) hk (.aload_n 3) 1 rfl rfl rfl rfl ?_
  obtain ⟨v505, I502, ou503, j504, hc506, hx⟩ := bnd4_some hx
  refine ev_cs 377 7 [.int v505] 323 hk rfl rfl (by decide) rfl rfl rfl (rw_feed hc506) rfl rfl rfl rfl ?_
  refine ev_ls (L' := [some (.retAddr 0), some (.ref 0), some (.ref 247), some (.ref 261), some (.ref 262), some (.int a5), some (.int v505), u7, u8, none]) (st' := []) (pc' := 325) hk (.istore 6) 2 rfl rfl rfl rfl ?_
  refine ev_ls (L' := [some (.retAddr 0), some (.ref 0), some (.ref 247), some (.ref 261), some (.ref 262), some (.int a5), some (.int v505), u7, u8, none]) (st' := [.ref 247]) (pc' := 326) hk (.aload_n 2) 1 rfl rfl rfl rfl ?_
  refine ev_ls (L' := [some (.retAddr 0), some (.ref 0), some (.ref 247), some (.ref 261), some (.ref 262), some (.int a5), some (.int v505), u7, u8, none]) (st' := [.retAddr 0, .ref 247]) (pc' := 327) hk (.aload_n 0) 1 rfl rfl rfl rfl ?_
  refine ev_ls (L' := [some (.retAddr 0), some (.ref 0), some (.ref 247), some (.ref 261), some (.ref 262), some (.int a5), some (.int v505), u7, u8, none]) (st' := [.int a5, .retAddr 0, .ref 247]) (pc' := 329) hk (.iload 5) 2 rfl rfl rfl rfl ?_
  refine ev_op (st' := [.int 1, .int a5, .retAddr 0, .ref 247]) (pc' := 330) hk (.iconst 1) 1 rfl rfl rfl ?_
  refine ev_op (st' := [.int (a5 + 1), .retAddr 0, .ref 247]) (pc' := 331) hk (.iadd) 1 rfl rfl rfl ?_
  obtain ⟨v507, hv507, hx⟩ := bnd_some hx
  refine ev_sal hv507 332 hk rfl rfl ?_
  refine ev_ls (L' := [some (.retAddr 0), some (.ref 0), some (.ref 247), some (.ref 261), some (.ref 262), some (.int a5), some (.int v505), u7, u8, none]) (st' := [.retAddr 0, .int v507, .ref 247]) (pc' := 333) hk (.aload_n 0) 1 rfl rfl rfl rfl ?_
  refine ev_ls (L' := [some (.retAddr 0), some (.ref 0), some (.ref 247), some (.ref 261), some (.ref 262), some (.int a5), some (.int v505), u7, u8, none]) (st' := [.int a5, .retAddr 0, .int v507, .ref 247]) (pc' := 335) hk (.iload 5) 2 rfl rfl rfl rfl ?_
  refine ev_op (st' := [.int 2, .int a5, .retAddr 0, .int v507, .ref 247]) (pc' := 336) hk (.iconst 2) 1 rfl rfl rfl ?_
  refine ev_op (st' := [.int (a5 + 2), .retAddr 0, .int v507, .ref 247]) (pc' := 337) hk (.iadd) 1 rfl rfl rfl ?_
  obtain ⟨v508, hv508, hx⟩ := bnd_some hx
  refine ev_sal hv508 338 hk rfl rfl ?_
  refine ev_ls (L' := [some (.retAddr 0), some (.ref 0), some (.ref 247), some (.ref 261), some (.ref 262), some (.int a5), some (.int v505), u7, u8, none]) (st' := [.retAddr 0, .int v508, .int v507, .ref 247]) (pc' := 339) hk (.aload_n 0) 1 rfl rfl rfl rfl ?_
  refine ev_ls (L' := [some (.retAddr 0), some (.ref 0), some (.ref 247), some (.ref 261), some (.ref 262), some (.int a5), some (.int v505), u7, u8, none]) (st' := [.int a5, .retAddr 0, .int v508, .int v507, .ref 247]) (pc' := 341) hk (.iload 5) 2 rfl rfl rfl rfl ?_
  refine ev_op (st' := [.int 3, .int a5, .retAddr 0, .int v508, .int v507, .ref 247]) (pc' := 342) hk (.iconst 3) 1 rfl rfl rfl ?_
  refine ev_op (st' := [.int (a5 + 3), .retAddr 0, .int v508, .int v507, .ref 247]) (pc' := 343) hk (.iadd) 1 rfl rfl rfl ?_
  obtain ⟨v509, hv509, hx⟩ := bnd_some hx
  refine ev_sal hv509 344 hk rfl rfl ?_
  refine ev_ls (L' := [some (.retAddr 0), some (.ref 0), some (.ref 247), some (.ref 261), some (.ref 262), some (.int a5), some (.int v505), u7, u8, none]) (st' := [.retAddr 0, .int v509, .int v508, .int v507, .ref 247]) (pc' := 345) hk (.aload_n 0) 1 rfl rfl rfl rfl ?_
  refine ev_ls (L' := [some (.retAddr 0), some (.ref 0), some (.ref 247), some (.ref 261), some (.ref 262), some (.int a5), some (.int v505), u7, u8, none]) (st' := [.int a5, .retAddr 0, .int v509, .int v508, .int v507, .ref 247]) (pc' := 347) hk (.iload 5) 2 rfl rfl rfl rfl ?_
  refine ev_op (st' := [.int 4, .int a5, .retAddr 0, .int v509, .int v508, .int v507, .ref 247]) (pc' := 348) hk (.iconst 4) 1 rfl rfl rfl ?_
  refine ev_op (st' := [.int (a5 + 4), .retAddr 0, .int v509, .int v508, .int v507, .ref 247]) (pc' := 349) hk (.iadd) 1 rfl rfl rfl ?_
  obtain ⟨v510, hv510, hx⟩ := bnd_some hx
  refine ev_sal hv510 350 hk rfl rfl ?_
  refine ev_ls (L' := [some (.retAddr 0), some (.ref 0), some (.ref 247), some (.ref 261), some (.ref 262), some (.int a5), some (.int v505), u7, u8, none]) (st' := [.retAddr 0, .int v510, .int v509, .int v508, .int v507, .ref 247]) (pc' := 351) hk (.aload_n 0) 1 rfl rfl rfl rfl ?_
  refine ev_ls (L' := [some (.retAddr 0), some (.ref 0), some (.ref 247), some (.ref 261), some (.ref 262), some (.int a5), some (.int v505), u7, u8, none]) (st' := [.int a5, .retAddr 0, .int v510, .int v509, .int v508, .int v507, .ref 247]) (pc' := 353) hk (.iload 5) 2 rfl rfl rfl rfl ?_
  refine ev_op (st' := [.int 5, .int a5, .retAddr 0, .int v510, .int v509, .int v508, .int v507, .ref 247]) (pc' := 354) hk (.iconst 5) 1 rfl rfl rfl ?_
  refine ev_op (st' := [.int (a5 + 5), .retAddr 0, .int v510, .int v509, .int v508, .int v507, .ref 247]) (pc' := 355) hk (.iadd) 1 rfl rfl rfl ?_
  obtain ⟨v511, hv511, hx⟩ := bnd_some hx
  refine ev_sal hv511 356 hk rfl rfl ?_
  obtain ⟨v513, M512, hc514, hx⟩ := bnd2_some hx
  refine ev_cv 53 5 [.int v513] 359 hk rfl rfl rfl rfl lk_model rfl rfl rfl (rM_feed hc514) rfl rfl rfl rfl ?_
  refine ev_ls (L' := [some (.retAddr 0), some (.ref 0), some (.ref 247), some (.ref 261), some (.ref 262), some (.int a5), some (.int v505), some (.int v513), u8, none]) (st' := []) (pc' := 361) hk (.istore 7) 2 rfl rfl rfl rfl ?_
  refine ev_ls (L' := [some (.retAddr 0), some (.ref 0), some (.ref 247), some (.ref 261), some (.ref 262), some (.int a5), some (.int v505), some (.int v513), u8, none]) (st' := [.ref 247]) (pc' := 362) hk (.aload_n 2) 1 rfl rfl rfl rfl ?_
  refine ev_cv 183 0 [.int (fM_thrown M512)] 365 hk rfl rfl rfl rfl lk_model rfl rfl rfl (rM_thrown rfl) rfl rfl rfl rfl ?_
  refine ev_ls (L' := [some (.retAddr 0), some (.ref 0), some (.ref 247), some (.ref 261), some (.ref 262), some (.int a5), some (.int v505), some (.int v513), u8, none]) (st' := [.int v505, .int (fM_thrown M512)]) (pc' := 367) hk (.iload 6) 2 rfl rfl rfl rfl ?_
  refine ev_d2 372 370 hk rfl rfl rfl rfl (px_ceq hx (fun hc hx => ?_) (fun hc hx => ?_))
  · refine ev_ls (L' := [some (.retAddr 0), some (.ref 0), some (.ref 247), some (.ref 261), some (.ref 262), some (.int a5), some (.int v505), some (.int v513), u8, none]) (st' := [.int v505]) (pc' := 374) hk (.iload 6) 2 rfl rfl rfl rfl ?_
    refine ev_d1 389 377 hk rfl rfl rfl rfl (px_cne hx (fun hc hx => ?_) (fun hc hx => ?_))
    · refine ev_jp (pc' := 3189) (st' := []) hk (.goto 2800) 3 rfl rfl rfl rfl rfl ?_
      refine ev_ls (L' := [some (.retAddr 0), some (.ref 0), some (.ref 247), some (.ref 261), some (.ref 262), some (.int (a5 + 6)), some (.int v505), some (.int v513), u8, none]) (st' := []) (pc' := 3192) hk (.iinc 5 6) 3 rfl rfl rfl rfl ?_
      refine ev_jp (pc' := 28) (st' := []) hk (.goto (-3164)) 3 rfl rfl rfl rfl rfl ?_
      cases hx
      exact hM (some (.int v505)) (some (.int v513)) rfl u8
    · refine ev_ls (L' := [some (.retAddr 0), some (.ref 0), some (.ref 247), some (.ref 261), some (.ref 262), some (.int a5), some (.int v505), some (.int v513), u8, none]) (st' := [.ref 261]) (pc' := 378) hk (.aload_n 3) 1 rfl rfl rfl rfl ?_
      refine ev_op (st' := [.int 0, .ref 261]) (pc' := 379) hk (.iconst 0) 1 rfl rfl rfl ?_
      refine ev_lal (v := (ou503 0)) rfl 380 hk rfl lk_ou rfl ?_
      refine ev_ls (L' := [some (.retAddr 0), some (.ref 0), some (.ref 247), some (.ref 261), some (.ref 262), some (.int a5), some (.int v505), some (.int v513), u8, none]) (st' := [.int v513, .long (ou503 0)]) (pc' := 382) hk (.iload 7) 2 rfl rfl rfl rfl ?_
      refine ev_op (st' := [.long (Int32.toInt64 v513), .long (ou503 0)]) (pc' := 383) hk (.i2l) 1 rfl rfl rfl ?_
      refine ev_op (st' := [.int (lg_cmp (ou503 0) (Int32.toInt64 v513))]) (pc' := 384) hk (.lcmp) 1 rfl rfl rfl ?_
      refine ev_d1 389 387 hk rfl rfl rfl rfl (px_leq hx (fun hc hx => ?_) (fun hc hx => ?_))
      · refine ev_jp (pc' := 3189) (st' := []) hk (.goto 2800) 3 rfl rfl rfl rfl rfl ?_
        refine ev_ls (L' := [some (.retAddr 0), some (.ref 0), some (.ref 247), some (.ref 261), some (.ref 262), some (.int (a5 + 6)), some (.int v505), some (.int v513), u8, none]) (st' := []) (pc' := 3192) hk (.iinc 5 6) 3 rfl rfl rfl rfl ?_
        refine ev_jp (pc' := 28) (st' := []) hk (.goto (-3164)) 3 rfl rfl rfl rfl rfl ?_
        cases hx
        exact hM (some (.int v505)) (some (.int v513)) rfl u8
      · refine ev_op (st' := [.int 0]) (pc' := 388) hk (.iconst 0) 1 rfl rfl rfl ?_
        cases hx
        obtain rfl := hM
        exact ev_retZ false rfl hk rfl rfl
  · refine ev_op (st' := [.int 0]) (pc' := 371) hk (.iconst 0) 1 rfl rfl rfl ?_
    cases hx
    obtain rfl := hM
    exact ev_retZ false rfl hk rfl rfl
set_option maxRecDepth 4000 in
theorem rw_law_j392 {S : Nat} {xs : Nat → Int32} {I : zI} {C : zC} {Y : Nat → Int32} {Γ : Nat → zG} {D : zD} {O : Nat → Int32} {M : zM} {ou : Nat → Int64} {od : Nat → UInt64} {j : Nat} {a5 : Int32} {y : (Option Value ⊕ String) × px_H} {x : (zI × zC × (Nat → Int32) × (Nat → zG) × zD × (Nat → Int32) × zM × (Nat → Int64) × (Nat → UInt64) × Nat × Int32) ⊕ (Bool × zI × zC × (Nat → Int32) × (Nat → zG) × zD × (Nat → Int32) × zM × (Nat → Int64) × (Nat → UInt64) × Nat)}  (hx : fw_law_j392 S xs I C Y Γ D O M ou od j a5 = some x) (hM : (Sum.elim (qw_law_28 S xs y) (fun X : Bool × zI × zC × (Nat → Int32) × (Nat → zG) × zD × (Nat → Int32) × zM × (Nat → Int64) × (Nat → UInt64) × Nat => y = (((.inl (some (.int (b2i X.1)))), (zH X.2.1 X.2.2.1 X.2.2.2.1 X.2.2.2.2.1 X.2.2.2.2.2.1 X.2.2.2.2.2.2.1 X.2.2.2.2.2.2.2.1 X.2.2.2.2.2.2.2.2.1 X.2.2.2.2.2.2.2.2.2.1 X.2.2.2.2.2.2.2.2.2.2)) : (Option Value ⊕ String) × px_H))) x) (u6 : Option Value) (u7 : Option Value) (hu7 : px_cz u7 = true) (u8 : Option Value) : Ev S xs 412 392 [some (.retAddr 0), some (.ref 0), some (.ref 247), some (.ref 261), some (.ref 262), some (.int a5), u6, u7, u8, none] [] (zH I C Y Γ D O M ou od j) y := by
  have hk : pt_mt[412]? = some pt_r412 := rfl
  unfold fw_law_j392 at hx
  refine ev_ls (L' := [some (.retAddr 0), some (.ref 0), some (.ref 247), some (.ref 261), some (.ref 262), some (.int a5), u6, u7, u8, none]) (st' := [.ref 0]) (pc' := 393) hk (.aload_n 1) 1 rfl rfl rfl rfl ?_
  refine ev_ls (L' := [some (.retAddr 0), some (.ref 0), some (.ref 247), some (.ref 261), some (.ref 262), some (.int a5), u6, u7, u8, none]) (st' := [.retAddr 0, .ref 0]) (pc' := 394) hk (.aload_n 0) 1 rfl rfl rfl rfl ?_
  refine ev_ls (L' := [some (.retAddr 0), some (.ref 0), some (.ref 247), some (.ref 261), some (.ref 262), some (.int a5), u6, u7, u8, none]) (st' := [.int a5, .retAddr 0, .ref 0]) (pc' := 396) hk (.iload 5) 2 rfl rfl rfl rfl ?_
  refine ev_op (st' := [.int 1, .int a5, .retAddr 0, .ref 0]) (pc' := 397) hk (.iconst 1) 1 rfl rfl rfl ?_
  refine ev_op (st' := [.int (a5 + 1), .retAddr 0, .ref 0]) (pc' := 398) hk (.iadd) 1 rfl rfl rfl ?_
  obtain ⟨v515, hv515, hx⟩ := bnd_some hx
  refine ev_sal hv515 399 hk rfl rfl ?_
  refine ev_ls (L' := [some (.retAddr 0), some (.ref 0), some (.ref 247), some (.ref 261), some (.ref 262), some (.int a5), u6, u7, u8, none]) (st' := [.ref 261, .int v515, .ref 0]) (pc' := 400) hk (.aload_n 3) 1 rfl rfl rfl rfl ?_
  obtain ⟨v519, I516, ou517, j518, hc520, hx⟩ := bnd4_some hx
  refine ev_cs 408 3 [.int v519] 403 hk rfl rfl (by decide) rfl rfl rfl (rw_truncate hc520) rfl rfl rfl rfl ?_
  refine ev_ls (L' := [some (.retAddr 0), some (.ref 0), some (.ref 247), some (.ref 261), some (.ref 262), some (.int a5), some (.int v519), u7, u8, none]) (st' := []) (pc' := 405) hk (.istore 6) 2 rfl rfl rfl rfl ?_
  refine ev_ls (L' := [some (.retAddr 0), some (.ref 0), some (.ref 247), some (.ref 261), some (.ref 262), some (.int a5), some (.int v519), u7, u8, none]) (st' := [.ref 247]) (pc' := 406) hk (.aload_n 2) 1 rfl rfl rfl rfl ?_
  refine ev_ls (L' := [some (.retAddr 0), some (.ref 0), some (.ref 247), some (.ref 261), some (.ref 262), some (.int a5), some (.int v519), u7, u8, none]) (st' := [.retAddr 0, .ref 247]) (pc' := 407) hk (.aload_n 0) 1 rfl rfl rfl rfl ?_
  refine ev_ls (L' := [some (.retAddr 0), some (.ref 0), some (.ref 247), some (.ref 261), some (.ref 262), some (.int a5), some (.int v519), u7, u8, none]) (st' := [.int a5, .retAddr 0, .ref 247]) (pc' := 409) hk (.iload 5) 2 rfl rfl rfl rfl ?_
  refine ev_op (st' := [.int 1, .int a5, .retAddr 0, .ref 247]) (pc' := 410) hk (.iconst 1) 1 rfl rfl rfl ?_
  refine ev_op (st' := [.int (a5 + 1), .retAddr 0, .ref 247]) (pc' := 411) hk (.iadd) 1 rfl rfl rfl ?_
  obtain ⟨v521, hv521, hx⟩ := bnd_some hx
  refine ev_sal hv521 412 hk rfl rfl ?_
  obtain ⟨v523, M522, hc524, hx⟩ := bnd2_some hx
  refine ev_cv 188 1 [.int v523] 415 hk rfl rfl rfl rfl lk_model rfl rfl rfl (rM_truncate hc524) rfl rfl rfl rfl ?_
  refine ev_ls (L' := [some (.retAddr 0), some (.ref 0), some (.ref 247), some (.ref 261), some (.ref 262), some (.int a5), some (.int v519), some (.int v523), u8, none]) (st' := []) (pc' := 417) hk (.istore 7) 2 rfl rfl rfl rfl ?_
  refine ev_ls (L' := [some (.retAddr 0), some (.ref 0), some (.ref 247), some (.ref 261), some (.ref 262), some (.int a5), some (.int v519), some (.int v523), u8, none]) (st' := [.ref 247]) (pc' := 418) hk (.aload_n 2) 1 rfl rfl rfl rfl ?_
  refine ev_cv 183 0 [.int (fM_thrown M522)] 421 hk rfl rfl rfl rfl lk_model rfl rfl rfl (rM_thrown rfl) rfl rfl rfl rfl ?_
  refine ev_ls (L' := [some (.retAddr 0), some (.ref 0), some (.ref 247), some (.ref 261), some (.ref 262), some (.int a5), some (.int v519), some (.int v523), u8, none]) (st' := [.int v519, .int (fM_thrown M522)]) (pc' := 423) hk (.iload 6) 2 rfl rfl rfl rfl ?_
  refine ev_d2 428 426 hk rfl rfl rfl rfl (px_ceq hx (fun hc hx => ?_) (fun hc hx => ?_))
  · refine ev_ls (L' := [some (.retAddr 0), some (.ref 0), some (.ref 247), some (.ref 261), some (.ref 262), some (.int a5), some (.int v519), some (.int v523), u8, none]) (st' := [.int v519]) (pc' := 430) hk (.iload 6) 2 rfl rfl rfl rfl ?_
    refine ev_d1 445 433 hk rfl rfl rfl rfl (px_cne hx (fun hc hx => ?_) (fun hc hx => ?_))
    · refine ev_jp (pc' := 3189) (st' := []) hk (.goto 2744) 3 rfl rfl rfl rfl rfl ?_
      refine ev_ls (L' := [some (.retAddr 0), some (.ref 0), some (.ref 247), some (.ref 261), some (.ref 262), some (.int (a5 + 6)), some (.int v519), some (.int v523), u8, none]) (st' := []) (pc' := 3192) hk (.iinc 5 6) 3 rfl rfl rfl rfl ?_
      refine ev_jp (pc' := 28) (st' := []) hk (.goto (-3164)) 3 rfl rfl rfl rfl rfl ?_
      cases hx
      exact hM (some (.int v519)) (some (.int v523)) rfl u8
    · refine ev_ls (L' := [some (.retAddr 0), some (.ref 0), some (.ref 247), some (.ref 261), some (.ref 262), some (.int a5), some (.int v519), some (.int v523), u8, none]) (st' := [.ref 261]) (pc' := 434) hk (.aload_n 3) 1 rfl rfl rfl rfl ?_
      refine ev_op (st' := [.int 0, .ref 261]) (pc' := 435) hk (.iconst 0) 1 rfl rfl rfl ?_
      refine ev_lal (v := (ou517 0)) rfl 436 hk rfl lk_ou rfl ?_
      refine ev_ls (L' := [some (.retAddr 0), some (.ref 0), some (.ref 247), some (.ref 261), some (.ref 262), some (.int a5), some (.int v519), some (.int v523), u8, none]) (st' := [.int v523, .long (ou517 0)]) (pc' := 438) hk (.iload 7) 2 rfl rfl rfl rfl ?_
      refine ev_op (st' := [.long (Int32.toInt64 v523), .long (ou517 0)]) (pc' := 439) hk (.i2l) 1 rfl rfl rfl ?_
      refine ev_op (st' := [.int (lg_cmp (ou517 0) (Int32.toInt64 v523))]) (pc' := 440) hk (.lcmp) 1 rfl rfl rfl ?_
      refine ev_d1 445 443 hk rfl rfl rfl rfl (px_leq hx (fun hc hx => ?_) (fun hc hx => ?_))
      · refine ev_jp (pc' := 3189) (st' := []) hk (.goto 2744) 3 rfl rfl rfl rfl rfl ?_
        refine ev_ls (L' := [some (.retAddr 0), some (.ref 0), some (.ref 247), some (.ref 261), some (.ref 262), some (.int (a5 + 6)), some (.int v519), some (.int v523), u8, none]) (st' := []) (pc' := 3192) hk (.iinc 5 6) 3 rfl rfl rfl rfl ?_
        refine ev_jp (pc' := 28) (st' := []) hk (.goto (-3164)) 3 rfl rfl rfl rfl rfl ?_
        cases hx
        exact hM (some (.int v519)) (some (.int v523)) rfl u8
      · refine ev_op (st' := [.int 0]) (pc' := 444) hk (.iconst 0) 1 rfl rfl rfl ?_
        cases hx
        obtain rfl := hM
        exact ev_retZ false rfl hk rfl rfl
  · refine ev_op (st' := [.int 0]) (pc' := 427) hk (.iconst 0) 1 rfl rfl rfl ?_
    cases hx
    obtain rfl := hM
    exact ev_retZ false rfl hk rfl rfl
set_option maxRecDepth 4000 in
theorem rw_law_j448 {S : Nat} {xs : Nat → Int32} {I : zI} {C : zC} {Y : Nat → Int32} {Γ : Nat → zG} {D : zD} {O : Nat → Int32} {M : zM} {ou : Nat → Int64} {od : Nat → UInt64} {j : Nat} {a5 : Int32} {y : (Option Value ⊕ String) × px_H} {x : (zI × zC × (Nat → Int32) × (Nat → zG) × zD × (Nat → Int32) × zM × (Nat → Int64) × (Nat → UInt64) × Nat × Int32) ⊕ (Bool × zI × zC × (Nat → Int32) × (Nat → zG) × zD × (Nat → Int32) × zM × (Nat → Int64) × (Nat → UInt64) × Nat)}  (hx : fw_law_j448 S xs I C Y Γ D O M ou od j a5 = some x) (hM : (Sum.elim (qw_law_28 S xs y) (fun X : Bool × zI × zC × (Nat → Int32) × (Nat → zG) × zD × (Nat → Int32) × zM × (Nat → Int64) × (Nat → UInt64) × Nat => y = (((.inl (some (.int (b2i X.1)))), (zH X.2.1 X.2.2.1 X.2.2.2.1 X.2.2.2.2.1 X.2.2.2.2.2.1 X.2.2.2.2.2.2.1 X.2.2.2.2.2.2.2.1 X.2.2.2.2.2.2.2.2.1 X.2.2.2.2.2.2.2.2.2.1 X.2.2.2.2.2.2.2.2.2.2)) : (Option Value ⊕ String) × px_H))) x) (u6 : Option Value) (u7 : Option Value) (hu7 : px_cz u7 = true) (u8 : Option Value) : Ev S xs 412 448 [some (.retAddr 0), some (.ref 0), some (.ref 247), some (.ref 261), some (.ref 262), some (.int a5), u6, u7, u8, none] [] (zH I C Y Γ D O M ou od j) y := by
  have hk : pt_mt[412]? = some pt_r412 := rfl
  unfold fw_law_j448 at hx
  refine ev_ls (L' := [some (.retAddr 0), some (.ref 0), some (.ref 247), some (.ref 261), some (.ref 262), some (.int a5), u6, u7, u8, none]) (st' := [.ref 0]) (pc' := 449) hk (.aload_n 1) 1 rfl rfl rfl rfl ?_
  refine ev_ls (L' := [some (.retAddr 0), some (.ref 0), some (.ref 247), some (.ref 261), some (.ref 262), some (.int a5), u6, u7, u8, none]) (st' := [.ref 261, .ref 0]) (pc' := 450) hk (.aload_n 3) 1 rfl rfl rfl rfl ?_
  obtain ⟨v530, I525, Y526, Γ527, ou528, j529, hc531, hx⟩ := bnd6_some hx
  refine ev_cs 399 2 [.int v530] 453 hk rfl rfl (by decide) rfl rfl rfl (rw_readText hc531) rfl rfl rfl rfl ?_
  refine ev_ls (L' := [some (.retAddr 0), some (.ref 0), some (.ref 247), some (.ref 261), some (.ref 262), some (.int a5), some (.int v530), u7, u8, none]) (st' := []) (pc' := 455) hk (.istore 6) 2 rfl rfl rfl rfl ?_
  refine ev_ls (L' := [some (.retAddr 0), some (.ref 0), some (.ref 247), some (.ref 261), some (.ref 262), some (.int a5), some (.int v530), u7, u8, none]) (st' := [.ref 247]) (pc' := 456) hk (.aload_n 2) 1 rfl rfl rfl rfl ?_
  obtain ⟨v533, M532, hc534, hx⟩ := bnd2_some hx
  refine ev_cv 153 0 [.int v533] 459 hk rfl rfl rfl rfl lk_model rfl rfl rfl (rM_readText hc534) rfl rfl rfl rfl ?_
  refine ev_ls (L' := [some (.retAddr 0), some (.ref 0), some (.ref 247), some (.ref 261), some (.ref 262), some (.int a5), some (.int v530), some (.int v533), u8, none]) (st' := []) (pc' := 461) hk (.istore 7) 2 rfl rfl rfl rfl ?_
  refine ev_ls (L' := [some (.retAddr 0), some (.ref 0), some (.ref 247), some (.ref 261), some (.ref 262), some (.int a5), some (.int v530), some (.int v533), u8, none]) (st' := [.ref 247]) (pc' := 462) hk (.aload_n 2) 1 rfl rfl rfl rfl ?_
  refine ev_cv 183 0 [.int (fM_thrown M532)] 465 hk rfl rfl rfl rfl lk_model rfl rfl rfl (rM_thrown rfl) rfl rfl rfl rfl ?_
  refine ev_ls (L' := [some (.retAddr 0), some (.ref 0), some (.ref 247), some (.ref 261), some (.ref 262), some (.int a5), some (.int v530), some (.int v533), u8, none]) (st' := [.int v530, .int (fM_thrown M532)]) (pc' := 467) hk (.iload 6) 2 rfl rfl rfl rfl ?_
  refine ev_d2 472 470 hk rfl rfl rfl rfl (px_ceq hx (fun hc hx => ?_) (fun hc hx => ?_))
  · refine ev_ls (L' := [some (.retAddr 0), some (.ref 0), some (.ref 247), some (.ref 261), some (.ref 262), some (.int a5), some (.int v530), some (.int v533), u8, none]) (st' := [.int v530]) (pc' := 474) hk (.iload 6) 2 rfl rfl rfl rfl ?_
    refine ev_d1 489 477 hk rfl rfl rfl rfl (px_cne hx (fun hc hx => ?_) (fun hc hx => ?_))
    · refine ev_jp (pc' := 3189) (st' := []) hk (.goto 2700) 3 rfl rfl rfl rfl rfl ?_
      refine ev_ls (L' := [some (.retAddr 0), some (.ref 0), some (.ref 247), some (.ref 261), some (.ref 262), some (.int (a5 + 6)), some (.int v530), some (.int v533), u8, none]) (st' := []) (pc' := 3192) hk (.iinc 5 6) 3 rfl rfl rfl rfl ?_
      refine ev_jp (pc' := 28) (st' := []) hk (.goto (-3164)) 3 rfl rfl rfl rfl rfl ?_
      cases hx
      exact hM (some (.int v530)) (some (.int v533)) rfl u8
    · refine ev_ls (L' := [some (.retAddr 0), some (.ref 0), some (.ref 247), some (.ref 261), some (.ref 262), some (.int a5), some (.int v530), some (.int v533), u8, none]) (st' := [.ref 261]) (pc' := 478) hk (.aload_n 3) 1 rfl rfl rfl rfl ?_
      refine ev_op (st' := [.int 0, .ref 261]) (pc' := 479) hk (.iconst 0) 1 rfl rfl rfl ?_
      refine ev_lal (v := (ou528 0)) rfl 480 hk rfl lk_ou rfl ?_
      refine ev_ls (L' := [some (.retAddr 0), some (.ref 0), some (.ref 247), some (.ref 261), some (.ref 262), some (.int a5), some (.int v530), some (.int v533), u8, none]) (st' := [.int v533, .long (ou528 0)]) (pc' := 482) hk (.iload 7) 2 rfl rfl rfl rfl ?_
      refine ev_op (st' := [.long (Int32.toInt64 v533), .long (ou528 0)]) (pc' := 483) hk (.i2l) 1 rfl rfl rfl ?_
      refine ev_op (st' := [.int (lg_cmp (ou528 0) (Int32.toInt64 v533))]) (pc' := 484) hk (.lcmp) 1 rfl rfl rfl ?_
      refine ev_d1 489 487 hk rfl rfl rfl rfl (px_leq hx (fun hc hx => ?_) (fun hc hx => ?_))
      · refine ev_jp (pc' := 3189) (st' := []) hk (.goto 2700) 3 rfl rfl rfl rfl rfl ?_
        refine ev_ls (L' := [some (.retAddr 0), some (.ref 0), some (.ref 247), some (.ref 261), some (.ref 262), some (.int (a5 + 6)), some (.int v530), some (.int v533), u8, none]) (st' := []) (pc' := 3192) hk (.iinc 5 6) 3 rfl rfl rfl rfl ?_
        refine ev_jp (pc' := 28) (st' := []) hk (.goto (-3164)) 3 rfl rfl rfl rfl rfl ?_
        cases hx
        exact hM (some (.int v530)) (some (.int v533)) rfl u8
      · refine ev_op (st' := [.int 0]) (pc' := 488) hk (.iconst 0) 1 rfl rfl rfl ?_
        cases hx
        obtain rfl := hM
        exact ev_retZ false rfl hk rfl rfl
  · refine ev_op (st' := [.int 0]) (pc' := 471) hk (.iconst 0) 1 rfl rfl rfl ?_
    cases hx
    obtain rfl := hM
    exact ev_retZ false rfl hk rfl rfl
set_option maxRecDepth 4000 in
theorem rw_law_j492 {S : Nat} {xs : Nat → Int32} {I : zI} {C : zC} {Y : Nat → Int32} {Γ : Nat → zG} {D : zD} {O : Nat → Int32} {M : zM} {ou : Nat → Int64} {od : Nat → UInt64} {j : Nat} {a5 : Int32} {y : (Option Value ⊕ String) × px_H} {x : (zI × zC × (Nat → Int32) × (Nat → zG) × zD × (Nat → Int32) × zM × (Nat → Int64) × (Nat → UInt64) × Nat × Int32) ⊕ (Bool × zI × zC × (Nat → Int32) × (Nat → zG) × zD × (Nat → Int32) × zM × (Nat → Int64) × (Nat → UInt64) × Nat)}  (hx : fw_law_j492 S xs I C Y Γ D O M ou od j a5 = some x) (hM : (Sum.elim (qw_law_28 S xs y) (fun X : Bool × zI × zC × (Nat → Int32) × (Nat → zG) × zD × (Nat → Int32) × zM × (Nat → Int64) × (Nat → UInt64) × Nat => y = (((.inl (some (.int (b2i X.1)))), (zH X.2.1 X.2.2.1 X.2.2.2.1 X.2.2.2.2.1 X.2.2.2.2.2.1 X.2.2.2.2.2.2.1 X.2.2.2.2.2.2.2.1 X.2.2.2.2.2.2.2.2.1 X.2.2.2.2.2.2.2.2.2.1 X.2.2.2.2.2.2.2.2.2.2)) : (Option Value ⊕ String) × px_H))) x) (u6 : Option Value) (u7 : Option Value) (hu7 : px_cz u7 = true) (u8 : Option Value) : Ev S xs 412 492 [some (.retAddr 0), some (.ref 0), some (.ref 247), some (.ref 261), some (.ref 262), some (.int a5), u6, u7, u8, none] [] (zH I C Y Γ D O M ou od j) y := by
  have hk : pt_mt[412]? = some pt_r412 := rfl
  unfold fw_law_j492 at hx
  refine ev_ls (L' := [some (.retAddr 0), some (.ref 0), some (.ref 247), some (.ref 261), some (.ref 262), some (.int a5), u6, u7, u8, none]) (st' := [.ref 0]) (pc' := 493) hk (.aload_n 1) 1 rfl rfl rfl rfl ?_
  refine ev_ls (L' := [some (.retAddr 0), some (.ref 0), some (.ref 247), some (.ref 261), some (.ref 262), some (.int a5), u6, u7, u8, none]) (st' := [.ref 261, .ref 0]) (pc' := 494) hk (.aload_n 3) 1 rfl rfl rfl rfl ?_
  obtain ⟨v541, I535, C536, Y537, Γ538, ou539, j540, hc542, hx⟩ := bnd7_some hx
  refine ev_cs 402 2 [.int v541] 497 hk rfl rfl (by decide) rfl rfl rfl (rw_runScript hc542) rfl rfl rfl rfl ?_
  refine ev_ls (L' := [some (.retAddr 0), some (.ref 0), some (.ref 247), some (.ref 261), some (.ref 262), some (.int a5), some (.int v541), u7, u8, none]) (st' := []) (pc' := 499) hk (.istore 6) 2 rfl rfl rfl rfl ?_
  refine ev_ls (L' := [some (.retAddr 0), some (.ref 0), some (.ref 247), some (.ref 261), some (.ref 262), some (.int a5), some (.int v541), u7, u8, none]) (st' := [.ref 247]) (pc' := 500) hk (.aload_n 2) 1 rfl rfl rfl rfl ?_
  obtain ⟨v544, M543, hc545, hx⟩ := bnd2_some hx
  refine ev_cv 159 0 [.int v544] 503 hk rfl rfl rfl rfl lk_model rfl rfl rfl (rM_runScript hc545) rfl rfl rfl rfl ?_
  refine ev_ls (L' := [some (.retAddr 0), some (.ref 0), some (.ref 247), some (.ref 261), some (.ref 262), some (.int a5), some (.int v541), some (.int v544), u8, none]) (st' := []) (pc' := 505) hk (.istore 7) 2 rfl rfl rfl rfl ?_
  refine ev_ls (L' := [some (.retAddr 0), some (.ref 0), some (.ref 247), some (.ref 261), some (.ref 262), some (.int a5), some (.int v541), some (.int v544), u8, none]) (st' := [.ref 247]) (pc' := 506) hk (.aload_n 2) 1 rfl rfl rfl rfl ?_
  refine ev_cv 183 0 [.int (fM_thrown M543)] 509 hk rfl rfl rfl rfl lk_model rfl rfl rfl (rM_thrown rfl) rfl rfl rfl rfl ?_
  refine ev_ls (L' := [some (.retAddr 0), some (.ref 0), some (.ref 247), some (.ref 261), some (.ref 262), some (.int a5), some (.int v541), some (.int v544), u8, none]) (st' := [.int v541, .int (fM_thrown M543)]) (pc' := 511) hk (.iload 6) 2 rfl rfl rfl rfl ?_
  refine ev_d2 516 514 hk rfl rfl rfl rfl (px_ceq hx (fun hc hx => ?_) (fun hc hx => ?_))
  · refine ev_ls (L' := [some (.retAddr 0), some (.ref 0), some (.ref 247), some (.ref 261), some (.ref 262), some (.int a5), some (.int v541), some (.int v544), u8, none]) (st' := [.int v541]) (pc' := 518) hk (.iload 6) 2 rfl rfl rfl rfl ?_
    refine ev_d1 533 521 hk rfl rfl rfl rfl (px_cne hx (fun hc hx => ?_) (fun hc hx => ?_))
    · refine ev_jp (pc' := 3189) (st' := []) hk (.goto 2656) 3 rfl rfl rfl rfl rfl ?_
      refine ev_ls (L' := [some (.retAddr 0), some (.ref 0), some (.ref 247), some (.ref 261), some (.ref 262), some (.int (a5 + 6)), some (.int v541), some (.int v544), u8, none]) (st' := []) (pc' := 3192) hk (.iinc 5 6) 3 rfl rfl rfl rfl ?_
      refine ev_jp (pc' := 28) (st' := []) hk (.goto (-3164)) 3 rfl rfl rfl rfl rfl ?_
      cases hx
      exact hM (some (.int v541)) (some (.int v544)) rfl u8
    · refine ev_ls (L' := [some (.retAddr 0), some (.ref 0), some (.ref 247), some (.ref 261), some (.ref 262), some (.int a5), some (.int v541), some (.int v544), u8, none]) (st' := [.ref 261]) (pc' := 522) hk (.aload_n 3) 1 rfl rfl rfl rfl ?_
      refine ev_op (st' := [.int 0, .ref 261]) (pc' := 523) hk (.iconst 0) 1 rfl rfl rfl ?_
      refine ev_lal (v := (ou539 0)) rfl 524 hk rfl lk_ou rfl ?_
      refine ev_ls (L' := [some (.retAddr 0), some (.ref 0), some (.ref 247), some (.ref 261), some (.ref 262), some (.int a5), some (.int v541), some (.int v544), u8, none]) (st' := [.int v544, .long (ou539 0)]) (pc' := 526) hk (.iload 7) 2 rfl rfl rfl rfl ?_
      refine ev_op (st' := [.long (Int32.toInt64 v544), .long (ou539 0)]) (pc' := 527) hk (.i2l) 1 rfl rfl rfl ?_
      refine ev_op (st' := [.int (lg_cmp (ou539 0) (Int32.toInt64 v544))]) (pc' := 528) hk (.lcmp) 1 rfl rfl rfl ?_
      refine ev_d1 533 531 hk rfl rfl rfl rfl (px_leq hx (fun hc hx => ?_) (fun hc hx => ?_))
      · refine ev_jp (pc' := 3189) (st' := []) hk (.goto 2656) 3 rfl rfl rfl rfl rfl ?_
        refine ev_ls (L' := [some (.retAddr 0), some (.ref 0), some (.ref 247), some (.ref 261), some (.ref 262), some (.int (a5 + 6)), some (.int v541), some (.int v544), u8, none]) (st' := []) (pc' := 3192) hk (.iinc 5 6) 3 rfl rfl rfl rfl ?_
        refine ev_jp (pc' := 28) (st' := []) hk (.goto (-3164)) 3 rfl rfl rfl rfl rfl ?_
        cases hx
        exact hM (some (.int v541)) (some (.int v544)) rfl u8
      · refine ev_op (st' := [.int 0]) (pc' := 532) hk (.iconst 0) 1 rfl rfl rfl ?_
        cases hx
        obtain rfl := hM
        exact ev_retZ false rfl hk rfl rfl
  · refine ev_op (st' := [.int 0]) (pc' := 515) hk (.iconst 0) 1 rfl rfl rfl ?_
    cases hx
    obtain rfl := hM
    exact ev_retZ false rfl hk rfl rfl
set_option maxRecDepth 4000 in
theorem rw_law_j536 {S : Nat} {xs : Nat → Int32} {I : zI} {C : zC} {Y : Nat → Int32} {Γ : Nat → zG} {D : zD} {O : Nat → Int32} {M : zM} {ou : Nat → Int64} {od : Nat → UInt64} {j : Nat} {a5 : Int32} {y : (Option Value ⊕ String) × px_H} {x : (zI × zC × (Nat → Int32) × (Nat → zG) × zD × (Nat → Int32) × zM × (Nat → Int64) × (Nat → UInt64) × Nat × Int32) ⊕ (Bool × zI × zC × (Nat → Int32) × (Nat → zG) × zD × (Nat → Int32) × zM × (Nat → Int64) × (Nat → UInt64) × Nat)}  (hx : fw_law_j536 S xs I C Y Γ D O M ou od j a5 = some x) (hM : (Sum.elim (qw_law_28 S xs y) (fun X : Bool × zI × zC × (Nat → Int32) × (Nat → zG) × zD × (Nat → Int32) × zM × (Nat → Int64) × (Nat → UInt64) × Nat => y = (((.inl (some (.int (b2i X.1)))), (zH X.2.1 X.2.2.1 X.2.2.2.1 X.2.2.2.2.1 X.2.2.2.2.2.1 X.2.2.2.2.2.2.1 X.2.2.2.2.2.2.2.1 X.2.2.2.2.2.2.2.2.1 X.2.2.2.2.2.2.2.2.2.1 X.2.2.2.2.2.2.2.2.2.2)) : (Option Value ⊕ String) × px_H))) x) (u6 : Option Value) (u7 : Option Value) (hu7 : px_cz u7 = true) (u8 : Option Value) : Ev S xs 412 536 [some (.retAddr 0), some (.ref 0), some (.ref 247), some (.ref 261), some (.ref 262), some (.int a5), u6, u7, u8, none] [] (zH I C Y Γ D O M ou od j) y := by
  have hk : pt_mt[412]? = some pt_r412 := rfl
  unfold fw_law_j536 at hx
  refine ev_ls (L' := [some (.retAddr 0), some (.ref 0), some (.ref 247), some (.ref 261), some (.ref 262), some (.int a5), u6, u7, u8, none]) (st' := [.ref 0]) (pc' := 537) hk (.aload_n 1) 1 rfl rfl rfl rfl ?_
  refine ev_cv 310 0 [.int (fX_errorCode I)] 540 hk rfl rfl rfl rfl lk_dh rfl rfl rfl (rX_errorCode rfl) rfl rfl rfl rfl ?_
  refine ev_ls (L' := [some (.retAddr 0), some (.ref 0), some (.ref 247), some (.ref 261), some (.ref 262), some (.int a5), u6, u7, u8, none]) (st' := [.ref 247, .int (fX_errorCode I)]) (pc' := 541) hk (.aload_n 2) 1 rfl rfl rfl rfl ?_
  obtain ⟨v547, M546, hc548, hx⟩ := bnd2_some hx
  refine ev_cv 51 0 [.int v547, .int (fX_errorCode I)] 544 hk rfl rfl rfl rfl lk_model rfl rfl rfl (rM_errorCode hc548) rfl rfl rfl rfl ?_
  refine ev_d2 3189 547 hk rfl rfl rfl rfl (px_ceq hx (fun hc hx => ?_) (fun hc hx => ?_))
  · refine ev_ls (L' := [some (.retAddr 0), some (.ref 0), some (.ref 247), some (.ref 261), some (.ref 262), some (.int (a5 + 6)), u6, u7, u8, none]) (st' := []) (pc' := 3192) hk (.iinc 5 6) 3 rfl rfl rfl rfl ?_
    refine ev_jp (pc' := 28) (st' := []) hk (.goto (-3164)) 3 rfl rfl rfl rfl rfl ?_
    cases hx
    exact hM u6 u7 hu7 u8
  · refine ev_op (st' := [.int 0]) (pc' := 548) hk (.iconst 0) 1 rfl rfl rfl ?_
    cases hx
    obtain rfl := hM
    exact ev_retZ false rfl hk rfl rfl
set_option maxRecDepth 4000 in
theorem rw_law_j549 {S : Nat} {xs : Nat → Int32} {I : zI} {C : zC} {Y : Nat → Int32} {Γ : Nat → zG} {D : zD} {O : Nat → Int32} {M : zM} {ou : Nat → Int64} {od : Nat → UInt64} {j : Nat} {a5 : Int32} {y : (Option Value ⊕ String) × px_H} {x : (zI × zC × (Nat → Int32) × (Nat → zG) × zD × (Nat → Int32) × zM × (Nat → Int64) × (Nat → UInt64) × Nat × Int32) ⊕ (Bool × zI × zC × (Nat → Int32) × (Nat → zG) × zD × (Nat → Int32) × zM × (Nat → Int64) × (Nat → UInt64) × Nat)}  (hx : fw_law_j549 S xs I C Y Γ D O M ou od j a5 = some x) (hM : (Sum.elim (qw_law_28 S xs y) (fun X : Bool × zI × zC × (Nat → Int32) × (Nat → zG) × zD × (Nat → Int32) × zM × (Nat → Int64) × (Nat → UInt64) × Nat => y = (((.inl (some (.int (b2i X.1)))), (zH X.2.1 X.2.2.1 X.2.2.2.1 X.2.2.2.2.1 X.2.2.2.2.2.1 X.2.2.2.2.2.2.1 X.2.2.2.2.2.2.2.1 X.2.2.2.2.2.2.2.2.1 X.2.2.2.2.2.2.2.2.2.1 X.2.2.2.2.2.2.2.2.2.2)) : (Option Value ⊕ String) × px_H))) x) (u6 : Option Value) (u7 : Option Value) (hu7 : px_cz u7 = true) (u8 : Option Value) : Ev S xs 412 549 [some (.retAddr 0), some (.ref 0), some (.ref 247), some (.ref 261), some (.ref 262), some (.int a5), u6, u7, u8, none] [] (zH I C Y Γ D O M ou od j) y := by
  have hk : pt_mt[412]? = some pt_r412 := rfl
  unfold fw_law_j549 at hx
  refine ev_ls (L' := [some (.retAddr 0), some (.ref 0), some (.ref 247), some (.ref 261), some (.ref 262), some (.int a5), u6, u7, u8, none]) (st' := [.ref 0]) (pc' := 550) hk (.aload_n 1) 1 rfl rfl rfl rfl ?_
  refine ev_cv 311 0 [.int (fX_errorOffset I)] 553 hk rfl rfl rfl rfl lk_dh rfl rfl rfl (rX_errorOffset rfl) rfl rfl rfl rfl ?_
  refine ev_ls (L' := [some (.retAddr 0), some (.ref 0), some (.ref 247), some (.ref 261), some (.ref 262), some (.int a5), u6, u7, u8, none]) (st' := [.ref 247, .int (fX_errorOffset I)]) (pc' := 554) hk (.aload_n 2) 1 rfl rfl rfl rfl ?_
  obtain ⟨v550, M549, hc551, hx⟩ := bnd2_some hx
  refine ev_cv 52 0 [.int v550, .int (fX_errorOffset I)] 557 hk rfl rfl rfl rfl lk_model rfl rfl rfl (rM_errorOffset hc551) rfl rfl rfl rfl ?_
  refine ev_d2 3189 560 hk rfl rfl rfl rfl (px_ceq hx (fun hc hx => ?_) (fun hc hx => ?_))
  · refine ev_ls (L' := [some (.retAddr 0), some (.ref 0), some (.ref 247), some (.ref 261), some (.ref 262), some (.int (a5 + 6)), u6, u7, u8, none]) (st' := []) (pc' := 3192) hk (.iinc 5 6) 3 rfl rfl rfl rfl ?_
    refine ev_jp (pc' := 28) (st' := []) hk (.goto (-3164)) 3 rfl rfl rfl rfl rfl ?_
    cases hx
    exact hM u6 u7 hu7 u8
  · refine ev_op (st' := [.int 0]) (pc' := 561) hk (.iconst 0) 1 rfl rfl rfl ?_
    cases hx
    obtain rfl := hM
    exact ev_retZ false rfl hk rfl rfl
set_option maxRecDepth 4000 in
theorem rw_law_j562 {S : Nat} {xs : Nat → Int32} {I : zI} {C : zC} {Y : Nat → Int32} {Γ : Nat → zG} {D : zD} {O : Nat → Int32} {M : zM} {ou : Nat → Int64} {od : Nat → UInt64} {j : Nat} {a5 : Int32} {y : (Option Value ⊕ String) × px_H} {x : (zI × zC × (Nat → Int32) × (Nat → zG) × zD × (Nat → Int32) × zM × (Nat → Int64) × (Nat → UInt64) × Nat × Int32) ⊕ (Bool × zI × zC × (Nat → Int32) × (Nat → zG) × zD × (Nat → Int32) × zM × (Nat → Int64) × (Nat → UInt64) × Nat)}  (hx : fw_law_j562 S xs I C Y Γ D O M ou od j a5 = some x) (hM : (Sum.elim (qw_law_28 S xs y) (fun X : Bool × zI × zC × (Nat → Int32) × (Nat → zG) × zD × (Nat → Int32) × zM × (Nat → Int64) × (Nat → UInt64) × Nat => y = (((.inl (some (.int (b2i X.1)))), (zH X.2.1 X.2.2.1 X.2.2.2.1 X.2.2.2.2.1 X.2.2.2.2.2.1 X.2.2.2.2.2.2.1 X.2.2.2.2.2.2.2.1 X.2.2.2.2.2.2.2.2.1 X.2.2.2.2.2.2.2.2.2.1 X.2.2.2.2.2.2.2.2.2.2)) : (Option Value ⊕ String) × px_H))) x) (u6 : Option Value) (u7 : Option Value) (hu7 : px_cz u7 = true) (u8 : Option Value) : Ev S xs 412 562 [some (.retAddr 0), some (.ref 0), some (.ref 247), some (.ref 261), some (.ref 262), some (.int a5), u6, u7, u8, none] [] (zH I C Y Γ D O M ou od j) y := by
  have hk : pt_mt[412]? = some pt_r412 := rfl
  unfold fw_law_j562 at hx
  refine ev_ls (L' := [some (.retAddr 0), some (.ref 0), some (.ref 247), some (.ref 261), some (.ref 262), some (.int a5), u6, u7, u8, none]) (st' := [.ref 0]) (pc' := 563) hk (.aload_n 1) 1 rfl rfl rfl rfl ?_
  refine ev_cv 315 0 [.int (fX_goreCount Γ)] 566 hk rfl rfl rfl rfl lk_dh rfl rfl rfl (rX_goreCount rfl) rfl rfl rfl rfl ?_
  refine ev_ls (L' := [some (.retAddr 0), some (.ref 0), some (.ref 247), some (.ref 261), some (.ref 262), some (.int a5), u6, u7, u8, none]) (st' := [.ref 247, .int (fX_goreCount Γ)]) (pc' := 567) hk (.aload_n 2) 1 rfl rfl rfl rfl ?_
  obtain ⟨v553, M552, hc554, hx⟩ := bnd2_some hx
  refine ev_cv 64 0 [.int v553, .int (fX_goreCount Γ)] 570 hk rfl rfl rfl rfl lk_model rfl rfl rfl (rM_goreCount hc554) rfl rfl rfl rfl ?_
  refine ev_d2 3189 573 hk rfl rfl rfl rfl (px_ceq hx (fun hc hx => ?_) (fun hc hx => ?_))
  · refine ev_ls (L' := [some (.retAddr 0), some (.ref 0), some (.ref 247), some (.ref 261), some (.ref 262), some (.int (a5 + 6)), u6, u7, u8, none]) (st' := []) (pc' := 3192) hk (.iinc 5 6) 3 rfl rfl rfl rfl ?_
    refine ev_jp (pc' := 28) (st' := []) hk (.goto (-3164)) 3 rfl rfl rfl rfl rfl ?_
    cases hx
    exact hM u6 u7 hu7 u8
  · refine ev_op (st' := [.int 0]) (pc' := 574) hk (.iconst 0) 1 rfl rfl rfl ?_
    cases hx
    obtain rfl := hM
    exact ev_retZ false rfl hk rfl rfl
set_option maxRecDepth 4000 in
theorem rw_law_j575 {S : Nat} {xs : Nat → Int32} {I : zI} {C : zC} {Y : Nat → Int32} {Γ : Nat → zG} {D : zD} {O : Nat → Int32} {M : zM} {ou : Nat → Int64} {od : Nat → UInt64} {j : Nat} {a5 : Int32} {y : (Option Value ⊕ String) × px_H} {x : (zI × zC × (Nat → Int32) × (Nat → zG) × zD × (Nat → Int32) × zM × (Nat → Int64) × (Nat → UInt64) × Nat × Int32) ⊕ (Bool × zI × zC × (Nat → Int32) × (Nat → zG) × zD × (Nat → Int32) × zM × (Nat → Int64) × (Nat → UInt64) × Nat)}  (hx : fw_law_j575 S xs I C Y Γ D O M ou od j a5 = some x) (hM : (Sum.elim (qw_law_28 S xs y) (fun X : Bool × zI × zC × (Nat → Int32) × (Nat → zG) × zD × (Nat → Int32) × zM × (Nat → Int64) × (Nat → UInt64) × Nat => y = (((.inl (some (.int (b2i X.1)))), (zH X.2.1 X.2.2.1 X.2.2.2.1 X.2.2.2.2.1 X.2.2.2.2.2.1 X.2.2.2.2.2.2.1 X.2.2.2.2.2.2.2.1 X.2.2.2.2.2.2.2.2.1 X.2.2.2.2.2.2.2.2.2.1 X.2.2.2.2.2.2.2.2.2.2)) : (Option Value ⊕ String) × px_H))) x) (u6 : Option Value) (u7 : Option Value) (hu7 : px_cz u7 = true) (u8 : Option Value) : Ev S xs 412 575 [some (.retAddr 0), some (.ref 0), some (.ref 247), some (.ref 261), some (.ref 262), some (.int a5), u6, u7, u8, none] [] (zH I C Y Γ D O M ou od j) y := by
  have hk : pt_mt[412]? = some pt_r412 := rfl
  unfold fw_law_j575 at hx
  refine ev_ls (L' := [some (.retAddr 0), some (.ref 0), some (.ref 247), some (.ref 261), some (.ref 262), some (.int a5), u6, u7, u8, none]) (st' := [.ref 0]) (pc' := 576) hk (.aload_n 1) 1 rfl rfl rfl rfl ?_
  refine ev_ls (L' := [some (.retAddr 0), some (.ref 0), some (.ref 247), some (.ref 261), some (.ref 262), some (.int a5), u6, u7, u8, none]) (st' := [.retAddr 0, .ref 0]) (pc' := 577) hk (.aload_n 0) 1 rfl rfl rfl rfl ?_
  refine ev_ls (L' := [some (.retAddr 0), some (.ref 0), some (.ref 247), some (.ref 261), some (.ref 262), some (.int a5), u6, u7, u8, none]) (st' := [.int a5, .retAddr 0, .ref 0]) (pc' := 579) hk (.iload 5) 2 rfl rfl rfl rfl ?_
  refine ev_op (st' := [.int 1, .int a5, .retAddr 0, .ref 0]) (pc' := 580) hk (.iconst 1) 1 rfl rfl rfl ?_
  refine ev_op (st' := [.int (a5 + 1), .retAddr 0, .ref 0]) (pc' := 581) hk (.iadd) 1 rfl rfl rfl ?_
  obtain ⟨v555, hv555, hx⟩ := bnd_some hx
  refine ev_sal hv555 582 hk rfl rfl ?_
  refine ev_ls (L' := [some (.retAddr 0), some (.ref 0), some (.ref 247), some (.ref 261), some (.ref 262), some (.int a5), u6, u7, u8, none]) (st' := [.ref 261, .int v555, .ref 0]) (pc' := 583) hk (.aload_n 3) 1 rfl rfl rfl rfl ?_
  obtain ⟨v558, ou556, j557, hc559, hx⟩ := bnd3_some hx
  refine ev_cs 411 3 [.int v558] 586 hk rfl rfl (by decide) rfl rfl rfl (rw_widthOf hc559) rfl rfl rfl rfl ?_
  refine ev_ls (L' := [some (.retAddr 0), some (.ref 0), some (.ref 247), some (.ref 261), some (.ref 262), some (.int a5), some (.int v558), u7, u8, none]) (st' := []) (pc' := 588) hk (.istore 6) 2 rfl rfl rfl rfl ?_
  refine ev_ls (L' := [some (.retAddr 0), some (.ref 0), some (.ref 247), some (.ref 261), some (.ref 262), some (.int a5), some (.int v558), u7, u8, none]) (st' := [.ref 247]) (pc' := 589) hk (.aload_n 2) 1 rfl rfl rfl rfl ?_
  refine ev_ls (L' := [some (.retAddr 0), some (.ref 0), some (.ref 247), some (.ref 261), some (.ref 262), some (.int a5), some (.int v558), u7, u8, none]) (st' := [.retAddr 0, .ref 247]) (pc' := 590) hk (.aload_n 0) 1 rfl rfl rfl rfl ?_
  refine ev_ls (L' := [some (.retAddr 0), some (.ref 0), some (.ref 247), some (.ref 261), some (.ref 262), some (.int a5), some (.int v558), u7, u8, none]) (st' := [.int a5, .retAddr 0, .ref 247]) (pc' := 592) hk (.iload 5) 2 rfl rfl rfl rfl ?_
  refine ev_op (st' := [.int 1, .int a5, .retAddr 0, .ref 247]) (pc' := 593) hk (.iconst 1) 1 rfl rfl rfl ?_
  refine ev_op (st' := [.int (a5 + 1), .retAddr 0, .ref 247]) (pc' := 594) hk (.iadd) 1 rfl rfl rfl ?_
  obtain ⟨v560, hv560, hx⟩ := bnd_some hx
  refine ev_sal hv560 595 hk rfl rfl ?_
  obtain ⟨v562, M561, hc563, hx⟩ := bnd2_some hx
  refine ev_cv 199 1 [.int v562] 598 hk rfl rfl rfl rfl lk_model rfl rfl rfl (rM_widthOf hc563) rfl rfl rfl rfl ?_
  refine ev_ls (L' := [some (.retAddr 0), some (.ref 0), some (.ref 247), some (.ref 261), some (.ref 262), some (.int a5), some (.int v558), some (.int v562), u8, none]) (st' := []) (pc' := 600) hk (.istore 7) 2 rfl rfl rfl rfl ?_
  refine ev_ls (L' := [some (.retAddr 0), some (.ref 0), some (.ref 247), some (.ref 261), some (.ref 262), some (.int a5), some (.int v558), some (.int v562), u8, none]) (st' := [.ref 247]) (pc' := 601) hk (.aload_n 2) 1 rfl rfl rfl rfl ?_
  refine ev_cv 183 0 [.int (fM_thrown M561)] 604 hk rfl rfl rfl rfl lk_model rfl rfl rfl (rM_thrown rfl) rfl rfl rfl rfl ?_
  refine ev_ls (L' := [some (.retAddr 0), some (.ref 0), some (.ref 247), some (.ref 261), some (.ref 262), some (.int a5), some (.int v558), some (.int v562), u8, none]) (st' := [.int v558, .int (fM_thrown M561)]) (pc' := 606) hk (.iload 6) 2 rfl rfl rfl rfl ?_
  refine ev_d2 611 609 hk rfl rfl rfl rfl (px_ceq hx (fun hc hx => ?_) (fun hc hx => ?_))
  · refine ev_ls (L' := [some (.retAddr 0), some (.ref 0), some (.ref 247), some (.ref 261), some (.ref 262), some (.int a5), some (.int v558), some (.int v562), u8, none]) (st' := [.int v558]) (pc' := 613) hk (.iload 6) 2 rfl rfl rfl rfl ?_
    refine ev_d1 628 616 hk rfl rfl rfl rfl (px_cne hx (fun hc hx => ?_) (fun hc hx => ?_))
    · refine ev_jp (pc' := 3189) (st' := []) hk (.goto 2561) 3 rfl rfl rfl rfl rfl ?_
      refine ev_ls (L' := [some (.retAddr 0), some (.ref 0), some (.ref 247), some (.ref 261), some (.ref 262), some (.int (a5 + 6)), some (.int v558), some (.int v562), u8, none]) (st' := []) (pc' := 3192) hk (.iinc 5 6) 3 rfl rfl rfl rfl ?_
      refine ev_jp (pc' := 28) (st' := []) hk (.goto (-3164)) 3 rfl rfl rfl rfl rfl ?_
      cases hx
      exact hM (some (.int v558)) (some (.int v562)) rfl u8
    · refine ev_ls (L' := [some (.retAddr 0), some (.ref 0), some (.ref 247), some (.ref 261), some (.ref 262), some (.int a5), some (.int v558), some (.int v562), u8, none]) (st' := [.ref 261]) (pc' := 617) hk (.aload_n 3) 1 rfl rfl rfl rfl ?_
      refine ev_op (st' := [.int 0, .ref 261]) (pc' := 618) hk (.iconst 0) 1 rfl rfl rfl ?_
      refine ev_lal (v := (ou556 0)) rfl 619 hk rfl lk_ou rfl ?_
      refine ev_ls (L' := [some (.retAddr 0), some (.ref 0), some (.ref 247), some (.ref 261), some (.ref 262), some (.int a5), some (.int v558), some (.int v562), u8, none]) (st' := [.int v562, .long (ou556 0)]) (pc' := 621) hk (.iload 7) 2 rfl rfl rfl rfl ?_
      refine ev_op (st' := [.long (Int32.toInt64 v562), .long (ou556 0)]) (pc' := 622) hk (.i2l) 1 rfl rfl rfl ?_
      refine ev_op (st' := [.int (lg_cmp (ou556 0) (Int32.toInt64 v562))]) (pc' := 623) hk (.lcmp) 1 rfl rfl rfl ?_
      refine ev_d1 628 626 hk rfl rfl rfl rfl (px_leq hx (fun hc hx => ?_) (fun hc hx => ?_))
      · refine ev_jp (pc' := 3189) (st' := []) hk (.goto 2561) 3 rfl rfl rfl rfl rfl ?_
        refine ev_ls (L' := [some (.retAddr 0), some (.ref 0), some (.ref 247), some (.ref 261), some (.ref 262), some (.int (a5 + 6)), some (.int v558), some (.int v562), u8, none]) (st' := []) (pc' := 3192) hk (.iinc 5 6) 3 rfl rfl rfl rfl ?_
        refine ev_jp (pc' := 28) (st' := []) hk (.goto (-3164)) 3 rfl rfl rfl rfl rfl ?_
        cases hx
        exact hM (some (.int v558)) (some (.int v562)) rfl u8
      · refine ev_op (st' := [.int 0]) (pc' := 627) hk (.iconst 0) 1 rfl rfl rfl ?_
        cases hx
        obtain rfl := hM
        exact ev_retZ false rfl hk rfl rfl
  · refine ev_op (st' := [.int 0]) (pc' := 610) hk (.iconst 0) 1 rfl rfl rfl ?_
    cases hx
    obtain rfl := hM
    exact ev_retZ false rfl hk rfl rfl
set_option maxRecDepth 4000 in
theorem rw_law_j631 {S : Nat} {xs : Nat → Int32} {I : zI} {C : zC} {Y : Nat → Int32} {Γ : Nat → zG} {D : zD} {O : Nat → Int32} {M : zM} {ou : Nat → Int64} {od : Nat → UInt64} {j : Nat} {a5 : Int32} {y : (Option Value ⊕ String) × px_H} {x : (zI × zC × (Nat → Int32) × (Nat → zG) × zD × (Nat → Int32) × zM × (Nat → Int64) × (Nat → UInt64) × Nat × Int32) ⊕ (Bool × zI × zC × (Nat → Int32) × (Nat → zG) × zD × (Nat → Int32) × zM × (Nat → Int64) × (Nat → UInt64) × Nat)}  (hx : fw_law_j631 S xs I C Y Γ D O M ou od j a5 = some x) (hM : (Sum.elim (qw_law_28 S xs y) (fun X : Bool × zI × zC × (Nat → Int32) × (Nat → zG) × zD × (Nat → Int32) × zM × (Nat → Int64) × (Nat → UInt64) × Nat => y = (((.inl (some (.int (b2i X.1)))), (zH X.2.1 X.2.2.1 X.2.2.2.1 X.2.2.2.2.1 X.2.2.2.2.2.1 X.2.2.2.2.2.2.1 X.2.2.2.2.2.2.2.1 X.2.2.2.2.2.2.2.2.1 X.2.2.2.2.2.2.2.2.2.1 X.2.2.2.2.2.2.2.2.2.2)) : (Option Value ⊕ String) × px_H))) x) (u6 : Option Value) (u7 : Option Value) (hu7 : px_cz u7 = true) (u8 : Option Value) : Ev S xs 412 631 [some (.retAddr 0), some (.ref 0), some (.ref 247), some (.ref 261), some (.ref 262), some (.int a5), u6, u7, u8, none] [] (zH I C Y Γ D O M ou od j) y := by
  have hk : pt_mt[412]? = some pt_r412 := rfl
  unfold fw_law_j631 at hx
  refine ev_ls (L' := [some (.retAddr 0), some (.ref 0), some (.ref 247), some (.ref 261), some (.ref 262), some (.int a5), u6, u7, u8, none]) (st' := [.ref 0]) (pc' := 632) hk (.aload_n 1) 1 rfl rfl rfl rfl ?_
  refine ev_ls (L' := [some (.retAddr 0), some (.ref 0), some (.ref 247), some (.ref 261), some (.ref 262), some (.int a5), u6, u7, u8, none]) (st' := [.retAddr 0, .ref 0]) (pc' := 633) hk (.aload_n 0) 1 rfl rfl rfl rfl ?_
  refine ev_ls (L' := [some (.retAddr 0), some (.ref 0), some (.ref 247), some (.ref 261), some (.ref 262), some (.int a5), u6, u7, u8, none]) (st' := [.int a5, .retAddr 0, .ref 0]) (pc' := 635) hk (.iload 5) 2 rfl rfl rfl rfl ?_
  refine ev_op (st' := [.int 1, .int a5, .retAddr 0, .ref 0]) (pc' := 636) hk (.iconst 1) 1 rfl rfl rfl ?_
  refine ev_op (st' := [.int (a5 + 1), .retAddr 0, .ref 0]) (pc' := 637) hk (.iadd) 1 rfl rfl rfl ?_
  obtain ⟨v564, hv564, hx⟩ := bnd_some hx
  refine ev_sal hv564 638 hk rfl rfl ?_
  refine ev_ls (L' := [some (.retAddr 0), some (.ref 0), some (.ref 247), some (.ref 261), some (.ref 262), some (.int a5), u6, u7, u8, none]) (st' := [.ref 261, .int v564, .ref 0]) (pc' := 639) hk (.aload_n 3) 1 rfl rfl rfl rfl ?_
  obtain ⟨v567, ou565, j566, hc568, hx⟩ := bnd3_some hx
  refine ev_cs 372 3 [.int v567] 642 hk rfl rfl (by decide) rfl rfl rfl (rw_beginOf hc568) rfl rfl rfl rfl ?_
  refine ev_ls (L' := [some (.retAddr 0), some (.ref 0), some (.ref 247), some (.ref 261), some (.ref 262), some (.int a5), some (.int v567), u7, u8, none]) (st' := []) (pc' := 644) hk (.istore 6) 2 rfl rfl rfl rfl ?_
  refine ev_ls (L' := [some (.retAddr 0), some (.ref 0), some (.ref 247), some (.ref 261), some (.ref 262), some (.int a5), some (.int v567), u7, u8, none]) (st' := [.ref 247]) (pc' := 645) hk (.aload_n 2) 1 rfl rfl rfl rfl ?_
  refine ev_ls (L' := [some (.retAddr 0), some (.ref 0), some (.ref 247), some (.ref 261), some (.ref 262), some (.int a5), some (.int v567), u7, u8, none]) (st' := [.retAddr 0, .ref 247]) (pc' := 646) hk (.aload_n 0) 1 rfl rfl rfl rfl ?_
  refine ev_ls (L' := [some (.retAddr 0), some (.ref 0), some (.ref 247), some (.ref 261), some (.ref 262), some (.int a5), some (.int v567), u7, u8, none]) (st' := [.int a5, .retAddr 0, .ref 247]) (pc' := 648) hk (.iload 5) 2 rfl rfl rfl rfl ?_
  refine ev_op (st' := [.int 1, .int a5, .retAddr 0, .ref 247]) (pc' := 649) hk (.iconst 1) 1 rfl rfl rfl ?_
  refine ev_op (st' := [.int (a5 + 1), .retAddr 0, .ref 247]) (pc' := 650) hk (.iadd) 1 rfl rfl rfl ?_
  obtain ⟨v569, hv569, hx⟩ := bnd_some hx
  refine ev_sal hv569 651 hk rfl rfl ?_
  obtain ⟨v571, M570, hc572, hx⟩ := bnd2_some hx
  refine ev_cv 26 1 [.int v571] 654 hk rfl rfl rfl rfl lk_model rfl rfl rfl (rM_beginOf hc572) rfl rfl rfl rfl ?_
  refine ev_ls (L' := [some (.retAddr 0), some (.ref 0), some (.ref 247), some (.ref 261), some (.ref 262), some (.int a5), some (.int v567), some (.int v571), u8, none]) (st' := []) (pc' := 656) hk (.istore 7) 2 rfl rfl rfl rfl ?_
  refine ev_ls (L' := [some (.retAddr 0), some (.ref 0), some (.ref 247), some (.ref 261), some (.ref 262), some (.int a5), some (.int v567), some (.int v571), u8, none]) (st' := [.ref 247]) (pc' := 657) hk (.aload_n 2) 1 rfl rfl rfl rfl ?_
  refine ev_cv 183 0 [.int (fM_thrown M570)] 660 hk rfl rfl rfl rfl lk_model rfl rfl rfl (rM_thrown rfl) rfl rfl rfl rfl ?_
  refine ev_ls (L' := [some (.retAddr 0), some (.ref 0), some (.ref 247), some (.ref 261), some (.ref 262), some (.int a5), some (.int v567), some (.int v571), u8, none]) (st' := [.int v567, .int (fM_thrown M570)]) (pc' := 662) hk (.iload 6) 2 rfl rfl rfl rfl ?_
  refine ev_d2 667 665 hk rfl rfl rfl rfl (px_ceq hx (fun hc hx => ?_) (fun hc hx => ?_))
  · refine ev_ls (L' := [some (.retAddr 0), some (.ref 0), some (.ref 247), some (.ref 261), some (.ref 262), some (.int a5), some (.int v567), some (.int v571), u8, none]) (st' := [.int v567]) (pc' := 669) hk (.iload 6) 2 rfl rfl rfl rfl ?_
    refine ev_d1 684 672 hk rfl rfl rfl rfl (px_cne hx (fun hc hx => ?_) (fun hc hx => ?_))
    · refine ev_jp (pc' := 3189) (st' := []) hk (.goto 2505) 3 rfl rfl rfl rfl rfl ?_
      refine ev_ls (L' := [some (.retAddr 0), some (.ref 0), some (.ref 247), some (.ref 261), some (.ref 262), some (.int (a5 + 6)), some (.int v567), some (.int v571), u8, none]) (st' := []) (pc' := 3192) hk (.iinc 5 6) 3 rfl rfl rfl rfl ?_
      refine ev_jp (pc' := 28) (st' := []) hk (.goto (-3164)) 3 rfl rfl rfl rfl rfl ?_
      cases hx
      exact hM (some (.int v567)) (some (.int v571)) rfl u8
    · refine ev_ls (L' := [some (.retAddr 0), some (.ref 0), some (.ref 247), some (.ref 261), some (.ref 262), some (.int a5), some (.int v567), some (.int v571), u8, none]) (st' := [.ref 261]) (pc' := 673) hk (.aload_n 3) 1 rfl rfl rfl rfl ?_
      refine ev_op (st' := [.int 0, .ref 261]) (pc' := 674) hk (.iconst 0) 1 rfl rfl rfl ?_
      refine ev_lal (v := (ou565 0)) rfl 675 hk rfl lk_ou rfl ?_
      refine ev_ls (L' := [some (.retAddr 0), some (.ref 0), some (.ref 247), some (.ref 261), some (.ref 262), some (.int a5), some (.int v567), some (.int v571), u8, none]) (st' := [.int v571, .long (ou565 0)]) (pc' := 677) hk (.iload 7) 2 rfl rfl rfl rfl ?_
      refine ev_op (st' := [.long (Int32.toInt64 v571), .long (ou565 0)]) (pc' := 678) hk (.i2l) 1 rfl rfl rfl ?_
      refine ev_op (st' := [.int (lg_cmp (ou565 0) (Int32.toInt64 v571))]) (pc' := 679) hk (.lcmp) 1 rfl rfl rfl ?_
      refine ev_d1 684 682 hk rfl rfl rfl rfl (px_leq hx (fun hc hx => ?_) (fun hc hx => ?_))
      · refine ev_jp (pc' := 3189) (st' := []) hk (.goto 2505) 3 rfl rfl rfl rfl rfl ?_
        refine ev_ls (L' := [some (.retAddr 0), some (.ref 0), some (.ref 247), some (.ref 261), some (.ref 262), some (.int (a5 + 6)), some (.int v567), some (.int v571), u8, none]) (st' := []) (pc' := 3192) hk (.iinc 5 6) 3 rfl rfl rfl rfl ?_
        refine ev_jp (pc' := 28) (st' := []) hk (.goto (-3164)) 3 rfl rfl rfl rfl rfl ?_
        cases hx
        exact hM (some (.int v567)) (some (.int v571)) rfl u8
      · refine ev_op (st' := [.int 0]) (pc' := 683) hk (.iconst 0) 1 rfl rfl rfl ?_
        cases hx
        obtain rfl := hM
        exact ev_retZ false rfl hk rfl rfl
  · refine ev_op (st' := [.int 0]) (pc' := 666) hk (.iconst 0) 1 rfl rfl rfl ?_
    cases hx
    obtain rfl := hM
    exact ev_retZ false rfl hk rfl rfl
set_option maxRecDepth 4000 in
theorem rw_law_j687 {S : Nat} {xs : Nat → Int32} {I : zI} {C : zC} {Y : Nat → Int32} {Γ : Nat → zG} {D : zD} {O : Nat → Int32} {M : zM} {ou : Nat → Int64} {od : Nat → UInt64} {j : Nat} {a5 : Int32} {y : (Option Value ⊕ String) × px_H} {x : (zI × zC × (Nat → Int32) × (Nat → zG) × zD × (Nat → Int32) × zM × (Nat → Int64) × (Nat → UInt64) × Nat × Int32) ⊕ (Bool × zI × zC × (Nat → Int32) × (Nat → zG) × zD × (Nat → Int32) × zM × (Nat → Int64) × (Nat → UInt64) × Nat)}  (hx : fw_law_j687 S xs I C Y Γ D O M ou od j a5 = some x) (hM : (Sum.elim (qw_law_28 S xs y) (fun X : Bool × zI × zC × (Nat → Int32) × (Nat → zG) × zD × (Nat → Int32) × zM × (Nat → Int64) × (Nat → UInt64) × Nat => y = (((.inl (some (.int (b2i X.1)))), (zH X.2.1 X.2.2.1 X.2.2.2.1 X.2.2.2.2.1 X.2.2.2.2.2.1 X.2.2.2.2.2.2.1 X.2.2.2.2.2.2.2.1 X.2.2.2.2.2.2.2.2.1 X.2.2.2.2.2.2.2.2.2.1 X.2.2.2.2.2.2.2.2.2.2)) : (Option Value ⊕ String) × px_H))) x) (u6 : Option Value) (u7 : Option Value) (hu7 : px_cz u7 = true) (u8 : Option Value) : Ev S xs 412 687 [some (.retAddr 0), some (.ref 0), some (.ref 247), some (.ref 261), some (.ref 262), some (.int a5), u6, u7, u8, none] [] (zH I C Y Γ D O M ou od j) y := by
  have hk : pt_mt[412]? = some pt_r412 := rfl
  unfold fw_law_j687 at hx
  refine ev_ls (L' := [some (.retAddr 0), some (.ref 0), some (.ref 247), some (.ref 261), some (.ref 262), some (.int a5), u6, u7, u8, none]) (st' := [.ref 0]) (pc' := 688) hk (.aload_n 1) 1 rfl rfl rfl rfl ?_
  refine ev_ls (L' := [some (.retAddr 0), some (.ref 0), some (.ref 247), some (.ref 261), some (.ref 262), some (.int a5), u6, u7, u8, none]) (st' := [.retAddr 0, .ref 0]) (pc' := 689) hk (.aload_n 0) 1 rfl rfl rfl rfl ?_
  refine ev_ls (L' := [some (.retAddr 0), some (.ref 0), some (.ref 247), some (.ref 261), some (.ref 262), some (.int a5), u6, u7, u8, none]) (st' := [.int a5, .retAddr 0, .ref 0]) (pc' := 691) hk (.iload 5) 2 rfl rfl rfl rfl ?_
  refine ev_op (st' := [.int 1, .int a5, .retAddr 0, .ref 0]) (pc' := 692) hk (.iconst 1) 1 rfl rfl rfl ?_
  refine ev_op (st' := [.int (a5 + 1), .retAddr 0, .ref 0]) (pc' := 693) hk (.iadd) 1 rfl rfl rfl ?_
  obtain ⟨v573, hv573, hx⟩ := bnd_some hx
  refine ev_sal hv573 694 hk rfl rfl ?_
  refine ev_ls (L' := [some (.retAddr 0), some (.ref 0), some (.ref 247), some (.ref 261), some (.ref 262), some (.int a5), u6, u7, u8, none]) (st' := [.ref 261, .int v573, .ref 0]) (pc' := 695) hk (.aload_n 3) 1 rfl rfl rfl rfl ?_
  obtain ⟨v576, ou574, j575, hc577, hx⟩ := bnd3_some hx
  refine ev_cs 378 3 [.int v576] 698 hk rfl rfl (by decide) rfl rfl rfl (rw_goreAt hc577) rfl rfl rfl rfl ?_
  refine ev_ls (L' := [some (.retAddr 0), some (.ref 0), some (.ref 247), some (.ref 261), some (.ref 262), some (.int a5), some (.int v576), u7, u8, none]) (st' := []) (pc' := 700) hk (.istore 6) 2 rfl rfl rfl rfl ?_
  refine ev_ls (L' := [some (.retAddr 0), some (.ref 0), some (.ref 247), some (.ref 261), some (.ref 262), some (.int a5), some (.int v576), u7, u8, none]) (st' := [.ref 247]) (pc' := 701) hk (.aload_n 2) 1 rfl rfl rfl rfl ?_
  refine ev_ls (L' := [some (.retAddr 0), some (.ref 0), some (.ref 247), some (.ref 261), some (.ref 262), some (.int a5), some (.int v576), u7, u8, none]) (st' := [.retAddr 0, .ref 247]) (pc' := 702) hk (.aload_n 0) 1 rfl rfl rfl rfl ?_
  refine ev_ls (L' := [some (.retAddr 0), some (.ref 0), some (.ref 247), some (.ref 261), some (.ref 262), some (.int a5), some (.int v576), u7, u8, none]) (st' := [.int a5, .retAddr 0, .ref 247]) (pc' := 704) hk (.iload 5) 2 rfl rfl rfl rfl ?_
  refine ev_op (st' := [.int 1, .int a5, .retAddr 0, .ref 247]) (pc' := 705) hk (.iconst 1) 1 rfl rfl rfl ?_
  refine ev_op (st' := [.int (a5 + 1), .retAddr 0, .ref 247]) (pc' := 706) hk (.iadd) 1 rfl rfl rfl ?_
  obtain ⟨v578, hv578, hx⟩ := bnd_some hx
  refine ev_sal hv578 707 hk rfl rfl ?_
  obtain ⟨v580, M579, hc581, hx⟩ := bnd2_some hx
  refine ev_cv 63 1 [.int v580] 710 hk rfl rfl rfl rfl lk_model rfl rfl rfl (rM_goreAt hc581) rfl rfl rfl rfl ?_
  refine ev_ls (L' := [some (.retAddr 0), some (.ref 0), some (.ref 247), some (.ref 261), some (.ref 262), some (.int a5), some (.int v576), some (.int v580), u8, none]) (st' := []) (pc' := 712) hk (.istore 7) 2 rfl rfl rfl rfl ?_
  refine ev_ls (L' := [some (.retAddr 0), some (.ref 0), some (.ref 247), some (.ref 261), some (.ref 262), some (.int a5), some (.int v576), some (.int v580), u8, none]) (st' := [.ref 247]) (pc' := 713) hk (.aload_n 2) 1 rfl rfl rfl rfl ?_
  refine ev_cv 183 0 [.int (fM_thrown M579)] 716 hk rfl rfl rfl rfl lk_model rfl rfl rfl (rM_thrown rfl) rfl rfl rfl rfl ?_
  refine ev_ls (L' := [some (.retAddr 0), some (.ref 0), some (.ref 247), some (.ref 261), some (.ref 262), some (.int a5), some (.int v576), some (.int v580), u8, none]) (st' := [.int v576, .int (fM_thrown M579)]) (pc' := 718) hk (.iload 6) 2 rfl rfl rfl rfl ?_
  refine ev_d2 723 721 hk rfl rfl rfl rfl (px_ceq hx (fun hc hx => ?_) (fun hc hx => ?_))
  · refine ev_ls (L' := [some (.retAddr 0), some (.ref 0), some (.ref 247), some (.ref 261), some (.ref 262), some (.int a5), some (.int v576), some (.int v580), u8, none]) (st' := [.int v576]) (pc' := 725) hk (.iload 6) 2 rfl rfl rfl rfl ?_
    refine ev_d1 740 728 hk rfl rfl rfl rfl (px_cne hx (fun hc hx => ?_) (fun hc hx => ?_))
    · refine ev_jp (pc' := 3189) (st' := []) hk (.goto 2449) 3 rfl rfl rfl rfl rfl ?_
      refine ev_ls (L' := [some (.retAddr 0), some (.ref 0), some (.ref 247), some (.ref 261), some (.ref 262), some (.int (a5 + 6)), some (.int v576), some (.int v580), u8, none]) (st' := []) (pc' := 3192) hk (.iinc 5 6) 3 rfl rfl rfl rfl ?_
      refine ev_jp (pc' := 28) (st' := []) hk (.goto (-3164)) 3 rfl rfl rfl rfl rfl ?_
      cases hx
      exact hM (some (.int v576)) (some (.int v580)) rfl u8
    · refine ev_ls (L' := [some (.retAddr 0), some (.ref 0), some (.ref 247), some (.ref 261), some (.ref 262), some (.int a5), some (.int v576), some (.int v580), u8, none]) (st' := [.ref 261]) (pc' := 729) hk (.aload_n 3) 1 rfl rfl rfl rfl ?_
      refine ev_op (st' := [.int 0, .ref 261]) (pc' := 730) hk (.iconst 0) 1 rfl rfl rfl ?_
      refine ev_lal (v := (ou574 0)) rfl 731 hk rfl lk_ou rfl ?_
      refine ev_ls (L' := [some (.retAddr 0), some (.ref 0), some (.ref 247), some (.ref 261), some (.ref 262), some (.int a5), some (.int v576), some (.int v580), u8, none]) (st' := [.int v580, .long (ou574 0)]) (pc' := 733) hk (.iload 7) 2 rfl rfl rfl rfl ?_
      refine ev_op (st' := [.long (Int32.toInt64 v580), .long (ou574 0)]) (pc' := 734) hk (.i2l) 1 rfl rfl rfl ?_
      refine ev_op (st' := [.int (lg_cmp (ou574 0) (Int32.toInt64 v580))]) (pc' := 735) hk (.lcmp) 1 rfl rfl rfl ?_
      refine ev_d1 740 738 hk rfl rfl rfl rfl (px_leq hx (fun hc hx => ?_) (fun hc hx => ?_))
      · refine ev_jp (pc' := 3189) (st' := []) hk (.goto 2449) 3 rfl rfl rfl rfl rfl ?_
        refine ev_ls (L' := [some (.retAddr 0), some (.ref 0), some (.ref 247), some (.ref 261), some (.ref 262), some (.int (a5 + 6)), some (.int v576), some (.int v580), u8, none]) (st' := []) (pc' := 3192) hk (.iinc 5 6) 3 rfl rfl rfl rfl ?_
        refine ev_jp (pc' := 28) (st' := []) hk (.goto (-3164)) 3 rfl rfl rfl rfl rfl ?_
        cases hx
        exact hM (some (.int v576)) (some (.int v580)) rfl u8
      · refine ev_op (st' := [.int 0]) (pc' := 739) hk (.iconst 0) 1 rfl rfl rfl ?_
        cases hx
        obtain rfl := hM
        exact ev_retZ false rfl hk rfl rfl
  · refine ev_op (st' := [.int 0]) (pc' := 722) hk (.iconst 0) 1 rfl rfl rfl ?_
    cases hx
    obtain rfl := hM
    exact ev_retZ false rfl hk rfl rfl
set_option maxRecDepth 4000 in
theorem rw_law_j743 {S : Nat} {xs : Nat → Int32} {I : zI} {C : zC} {Y : Nat → Int32} {Γ : Nat → zG} {D : zD} {O : Nat → Int32} {M : zM} {ou : Nat → Int64} {od : Nat → UInt64} {j : Nat} {a5 : Int32} {y : (Option Value ⊕ String) × px_H} {x : (zI × zC × (Nat → Int32) × (Nat → zG) × zD × (Nat → Int32) × zM × (Nat → Int64) × (Nat → UInt64) × Nat × Int32) ⊕ (Bool × zI × zC × (Nat → Int32) × (Nat → zG) × zD × (Nat → Int32) × zM × (Nat → Int64) × (Nat → UInt64) × Nat)}  (hx : fw_law_j743 S xs I C Y Γ D O M ou od j a5 = some x) (hM : (Sum.elim (qw_law_28 S xs y) (fun X : Bool × zI × zC × (Nat → Int32) × (Nat → zG) × zD × (Nat → Int32) × zM × (Nat → Int64) × (Nat → UInt64) × Nat => y = (((.inl (some (.int (b2i X.1)))), (zH X.2.1 X.2.2.1 X.2.2.2.1 X.2.2.2.2.1 X.2.2.2.2.2.1 X.2.2.2.2.2.2.1 X.2.2.2.2.2.2.2.1 X.2.2.2.2.2.2.2.2.1 X.2.2.2.2.2.2.2.2.2.1 X.2.2.2.2.2.2.2.2.2.2)) : (Option Value ⊕ String) × px_H))) x) (u6 : Option Value) (u7 : Option Value) (hu7 : px_cz u7 = true) (u8 : Option Value) : Ev S xs 412 743 [some (.retAddr 0), some (.ref 0), some (.ref 247), some (.ref 261), some (.ref 262), some (.int a5), u6, u7, u8, none] [] (zH I C Y Γ D O M ou od j) y := by
  have hk : pt_mt[412]? = some pt_r412 := rfl
  unfold fw_law_j743 at hx
  refine ev_ls (L' := [some (.retAddr 0), some (.ref 0), some (.ref 247), some (.ref 261), some (.ref 262), some (.int a5), u6, u7, u8, none]) (st' := [.ref 0]) (pc' := 744) hk (.aload_n 1) 1 rfl rfl rfl rfl ?_
  refine ev_ls (L' := [some (.retAddr 0), some (.ref 0), some (.ref 247), some (.ref 261), some (.ref 262), some (.int a5), u6, u7, u8, none]) (st' := [.retAddr 0, .ref 0]) (pc' := 745) hk (.aload_n 0) 1 rfl rfl rfl rfl ?_
  refine ev_ls (L' := [some (.retAddr 0), some (.ref 0), some (.ref 247), some (.ref 261), some (.ref 262), some (.int a5), u6, u7, u8, none]) (st' := [.int a5, .retAddr 0, .ref 0]) (pc' := 747) hk (.iload 5) 2 rfl rfl rfl rfl ?_
  refine ev_op (st' := [.int 1, .int a5, .retAddr 0, .ref 0]) (pc' := 748) hk (.iconst 1) 1 rfl rfl rfl ?_
  refine ev_op (st' := [.int (a5 + 1), .retAddr 0, .ref 0]) (pc' := 749) hk (.iadd) 1 rfl rfl rfl ?_
  obtain ⟨v582, hv582, hx⟩ := bnd_some hx
  refine ev_sal hv582 750 hk rfl rfl ?_
  refine ev_ls (L' := [some (.retAddr 0), some (.ref 0), some (.ref 247), some (.ref 261), some (.ref 262), some (.int a5), u6, u7, u8, none]) (st' := [.ref 261, .int v582, .ref 0]) (pc' := 751) hk (.aload_n 3) 1 rfl rfl rfl rfl ?_
  obtain ⟨v585, ou583, j584, hc586, hx⟩ := bnd3_some hx
  refine ev_cs 406 3 [.int v585] 754 hk rfl rfl (by decide) rfl rfl rfl (rw_stitchesOf hc586) rfl rfl rfl rfl ?_
  refine ev_ls (L' := [some (.retAddr 0), some (.ref 0), some (.ref 247), some (.ref 261), some (.ref 262), some (.int a5), some (.int v585), u7, u8, none]) (st' := []) (pc' := 756) hk (.istore 6) 2 rfl rfl rfl rfl ?_
  refine ev_ls (L' := [some (.retAddr 0), some (.ref 0), some (.ref 247), some (.ref 261), some (.ref 262), some (.int a5), some (.int v585), u7, u8, none]) (st' := [.ref 247]) (pc' := 757) hk (.aload_n 2) 1 rfl rfl rfl rfl ?_
  refine ev_ls (L' := [some (.retAddr 0), some (.ref 0), some (.ref 247), some (.ref 261), some (.ref 262), some (.int a5), some (.int v585), u7, u8, none]) (st' := [.retAddr 0, .ref 247]) (pc' := 758) hk (.aload_n 0) 1 rfl rfl rfl rfl ?_
  refine ev_ls (L' := [some (.retAddr 0), some (.ref 0), some (.ref 247), some (.ref 261), some (.ref 262), some (.int a5), some (.int v585), u7, u8, none]) (st' := [.int a5, .retAddr 0, .ref 247]) (pc' := 760) hk (.iload 5) 2 rfl rfl rfl rfl ?_
  refine ev_op (st' := [.int 1, .int a5, .retAddr 0, .ref 247]) (pc' := 761) hk (.iconst 1) 1 rfl rfl rfl ?_
  refine ev_op (st' := [.int (a5 + 1), .retAddr 0, .ref 247]) (pc' := 762) hk (.iadd) 1 rfl rfl rfl ?_
  obtain ⟨v587, hv587, hx⟩ := bnd_some hx
  refine ev_sal hv587 763 hk rfl rfl ?_
  obtain ⟨v589, M588, hc590, hx⟩ := bnd2_some hx
  refine ev_cv 175 1 [.int v589] 766 hk rfl rfl rfl rfl lk_model rfl rfl rfl (rM_stitchesOf hc590) rfl rfl rfl rfl ?_
  refine ev_ls (L' := [some (.retAddr 0), some (.ref 0), some (.ref 247), some (.ref 261), some (.ref 262), some (.int a5), some (.int v585), some (.int v589), u8, none]) (st' := []) (pc' := 768) hk (.istore 7) 2 rfl rfl rfl rfl ?_
  refine ev_ls (L' := [some (.retAddr 0), some (.ref 0), some (.ref 247), some (.ref 261), some (.ref 262), some (.int a5), some (.int v585), some (.int v589), u8, none]) (st' := [.ref 247]) (pc' := 769) hk (.aload_n 2) 1 rfl rfl rfl rfl ?_
  refine ev_cv 183 0 [.int (fM_thrown M588)] 772 hk rfl rfl rfl rfl lk_model rfl rfl rfl (rM_thrown rfl) rfl rfl rfl rfl ?_
  refine ev_ls (L' := [some (.retAddr 0), some (.ref 0), some (.ref 247), some (.ref 261), some (.ref 262), some (.int a5), some (.int v585), some (.int v589), u8, none]) (st' := [.int v585, .int (fM_thrown M588)]) (pc' := 774) hk (.iload 6) 2 rfl rfl rfl rfl ?_
  refine ev_d2 779 777 hk rfl rfl rfl rfl (px_ceq hx (fun hc hx => ?_) (fun hc hx => ?_))
  · refine ev_ls (L' := [some (.retAddr 0), some (.ref 0), some (.ref 247), some (.ref 261), some (.ref 262), some (.int a5), some (.int v585), some (.int v589), u8, none]) (st' := [.int v585]) (pc' := 781) hk (.iload 6) 2 rfl rfl rfl rfl ?_
    refine ev_d1 796 784 hk rfl rfl rfl rfl (px_cne hx (fun hc hx => ?_) (fun hc hx => ?_))
    · refine ev_jp (pc' := 3189) (st' := []) hk (.goto 2393) 3 rfl rfl rfl rfl rfl ?_
      refine ev_ls (L' := [some (.retAddr 0), some (.ref 0), some (.ref 247), some (.ref 261), some (.ref 262), some (.int (a5 + 6)), some (.int v585), some (.int v589), u8, none]) (st' := []) (pc' := 3192) hk (.iinc 5 6) 3 rfl rfl rfl rfl ?_
      refine ev_jp (pc' := 28) (st' := []) hk (.goto (-3164)) 3 rfl rfl rfl rfl rfl ?_
      cases hx
      exact hM (some (.int v585)) (some (.int v589)) rfl u8
    · refine ev_ls (L' := [some (.retAddr 0), some (.ref 0), some (.ref 247), some (.ref 261), some (.ref 262), some (.int a5), some (.int v585), some (.int v589), u8, none]) (st' := [.ref 261]) (pc' := 785) hk (.aload_n 3) 1 rfl rfl rfl rfl ?_
      refine ev_op (st' := [.int 0, .ref 261]) (pc' := 786) hk (.iconst 0) 1 rfl rfl rfl ?_
      refine ev_lal (v := (ou583 0)) rfl 787 hk rfl lk_ou rfl ?_
      refine ev_ls (L' := [some (.retAddr 0), some (.ref 0), some (.ref 247), some (.ref 261), some (.ref 262), some (.int a5), some (.int v585), some (.int v589), u8, none]) (st' := [.int v589, .long (ou583 0)]) (pc' := 789) hk (.iload 7) 2 rfl rfl rfl rfl ?_
      refine ev_op (st' := [.long (Int32.toInt64 v589), .long (ou583 0)]) (pc' := 790) hk (.i2l) 1 rfl rfl rfl ?_
      refine ev_op (st' := [.int (lg_cmp (ou583 0) (Int32.toInt64 v589))]) (pc' := 791) hk (.lcmp) 1 rfl rfl rfl ?_
      refine ev_d1 796 794 hk rfl rfl rfl rfl (px_leq hx (fun hc hx => ?_) (fun hc hx => ?_))
      · refine ev_jp (pc' := 3189) (st' := []) hk (.goto 2393) 3 rfl rfl rfl rfl rfl ?_
        refine ev_ls (L' := [some (.retAddr 0), some (.ref 0), some (.ref 247), some (.ref 261), some (.ref 262), some (.int (a5 + 6)), some (.int v585), some (.int v589), u8, none]) (st' := []) (pc' := 3192) hk (.iinc 5 6) 3 rfl rfl rfl rfl ?_
        refine ev_jp (pc' := 28) (st' := []) hk (.goto (-3164)) 3 rfl rfl rfl rfl rfl ?_
        cases hx
        exact hM (some (.int v585)) (some (.int v589)) rfl u8
      · refine ev_op (st' := [.int 0]) (pc' := 795) hk (.iconst 0) 1 rfl rfl rfl ?_
        cases hx
        obtain rfl := hM
        exact ev_retZ false rfl hk rfl rfl
  · refine ev_op (st' := [.int 0]) (pc' := 778) hk (.iconst 0) 1 rfl rfl rfl ?_
    cases hx
    obtain rfl := hM
    exact ev_retZ false rfl hk rfl rfl
set_option maxRecDepth 4000 in
theorem rw_law_j799 {S : Nat} {xs : Nat → Int32} {I : zI} {C : zC} {Y : Nat → Int32} {Γ : Nat → zG} {D : zD} {O : Nat → Int32} {M : zM} {ou : Nat → Int64} {od : Nat → UInt64} {j : Nat} {a5 : Int32} {y : (Option Value ⊕ String) × px_H} {x : (zI × zC × (Nat → Int32) × (Nat → zG) × zD × (Nat → Int32) × zM × (Nat → Int64) × (Nat → UInt64) × Nat × Int32) ⊕ (Bool × zI × zC × (Nat → Int32) × (Nat → zG) × zD × (Nat → Int32) × zM × (Nat → Int64) × (Nat → UInt64) × Nat)}  (hx : fw_law_j799 S xs I C Y Γ D O M ou od j a5 = some x) (hM : (Sum.elim (qw_law_28 S xs y) (fun X : Bool × zI × zC × (Nat → Int32) × (Nat → zG) × zD × (Nat → Int32) × zM × (Nat → Int64) × (Nat → UInt64) × Nat => y = (((.inl (some (.int (b2i X.1)))), (zH X.2.1 X.2.2.1 X.2.2.2.1 X.2.2.2.2.1 X.2.2.2.2.2.1 X.2.2.2.2.2.2.1 X.2.2.2.2.2.2.2.1 X.2.2.2.2.2.2.2.2.1 X.2.2.2.2.2.2.2.2.2.1 X.2.2.2.2.2.2.2.2.2.2)) : (Option Value ⊕ String) × px_H))) x) (u6 : Option Value) (u7 : Option Value) (hu7 : px_cz u7 = true) (u8 : Option Value) : Ev S xs 412 799 [some (.retAddr 0), some (.ref 0), some (.ref 247), some (.ref 261), some (.ref 262), some (.int a5), u6, u7, u8, none] [] (zH I C Y Γ D O M ou od j) y := by
  have hk : pt_mt[412]? = some pt_r412 := rfl
  unfold fw_law_j799 at hx
  refine ev_ls (L' := [some (.retAddr 0), some (.ref 0), some (.ref 247), some (.ref 261), some (.ref 262), some (.int a5), u6, u7, u8, none]) (st' := [.ref 0]) (pc' := 800) hk (.aload_n 1) 1 rfl rfl rfl rfl ?_
  refine ev_ls (L' := [some (.retAddr 0), some (.ref 0), some (.ref 247), some (.ref 261), some (.ref 262), some (.int a5), u6, u7, u8, none]) (st' := [.retAddr 0, .ref 0]) (pc' := 801) hk (.aload_n 0) 1 rfl rfl rfl rfl ?_
  refine ev_ls (L' := [some (.retAddr 0), some (.ref 0), some (.ref 247), some (.ref 261), some (.ref 262), some (.int a5), u6, u7, u8, none]) (st' := [.int a5, .retAddr 0, .ref 0]) (pc' := 803) hk (.iload 5) 2 rfl rfl rfl rfl ?_
  refine ev_op (st' := [.int 1, .int a5, .retAddr 0, .ref 0]) (pc' := 804) hk (.iconst 1) 1 rfl rfl rfl ?_
  refine ev_op (st' := [.int (a5 + 1), .retAddr 0, .ref 0]) (pc' := 805) hk (.iadd) 1 rfl rfl rfl ?_
  obtain ⟨v591, hv591, hx⟩ := bnd_some hx
  refine ev_sal hv591 806 hk rfl rfl ?_
  refine ev_ls (L' := [some (.retAddr 0), some (.ref 0), some (.ref 247), some (.ref 261), some (.ref 262), some (.int a5), u6, u7, u8, none]) (st' := [.ref 261, .int v591, .ref 0]) (pc' := 807) hk (.aload_n 3) 1 rfl rfl rfl rfl ?_
  obtain ⟨v594, ou592, j593, hc595, hx⟩ := bnd3_some hx
  refine ev_cs 407 3 [.int v594] 810 hk rfl rfl (by decide) rfl rfl rfl (rw_strainOf hc595) rfl rfl rfl rfl ?_
  refine ev_ls (L' := [some (.retAddr 0), some (.ref 0), some (.ref 247), some (.ref 261), some (.ref 262), some (.int a5), some (.int v594), u7, u8, none]) (st' := []) (pc' := 812) hk (.istore 6) 2 rfl rfl rfl rfl ?_
  refine ev_ls (L' := [some (.retAddr 0), some (.ref 0), some (.ref 247), some (.ref 261), some (.ref 262), some (.int a5), some (.int v594), u7, u8, none]) (st' := [.ref 247]) (pc' := 813) hk (.aload_n 2) 1 rfl rfl rfl rfl ?_
  refine ev_ls (L' := [some (.retAddr 0), some (.ref 0), some (.ref 247), some (.ref 261), some (.ref 262), some (.int a5), some (.int v594), u7, u8, none]) (st' := [.retAddr 0, .ref 247]) (pc' := 814) hk (.aload_n 0) 1 rfl rfl rfl rfl ?_
  refine ev_ls (L' := [some (.retAddr 0), some (.ref 0), some (.ref 247), some (.ref 261), some (.ref 262), some (.int a5), some (.int v594), u7, u8, none]) (st' := [.int a5, .retAddr 0, .ref 247]) (pc' := 816) hk (.iload 5) 2 rfl rfl rfl rfl ?_
  refine ev_op (st' := [.int 1, .int a5, .retAddr 0, .ref 247]) (pc' := 817) hk (.iconst 1) 1 rfl rfl rfl ?_
  refine ev_op (st' := [.int (a5 + 1), .retAddr 0, .ref 247]) (pc' := 818) hk (.iadd) 1 rfl rfl rfl ?_
  obtain ⟨v596, hv596, hx⟩ := bnd_some hx
  refine ev_sal hv596 819 hk rfl rfl ?_
  obtain ⟨v598, M597, hc599, hx⟩ := bnd2_some hx
  refine ev_cv 177 1 [.int v598] 822 hk rfl rfl rfl rfl lk_model rfl rfl rfl (rM_strainOf hc599) rfl rfl rfl rfl ?_
  refine ev_ls (L' := [some (.retAddr 0), some (.ref 0), some (.ref 247), some (.ref 261), some (.ref 262), some (.int a5), some (.int v594), some (.int v598), u8, none]) (st' := []) (pc' := 824) hk (.istore 7) 2 rfl rfl rfl rfl ?_
  refine ev_ls (L' := [some (.retAddr 0), some (.ref 0), some (.ref 247), some (.ref 261), some (.ref 262), some (.int a5), some (.int v594), some (.int v598), u8, none]) (st' := [.ref 247]) (pc' := 825) hk (.aload_n 2) 1 rfl rfl rfl rfl ?_
  refine ev_cv 183 0 [.int (fM_thrown M597)] 828 hk rfl rfl rfl rfl lk_model rfl rfl rfl (rM_thrown rfl) rfl rfl rfl rfl ?_
  refine ev_ls (L' := [some (.retAddr 0), some (.ref 0), some (.ref 247), some (.ref 261), some (.ref 262), some (.int a5), some (.int v594), some (.int v598), u8, none]) (st' := [.int v594, .int (fM_thrown M597)]) (pc' := 830) hk (.iload 6) 2 rfl rfl rfl rfl ?_
  refine ev_d2 835 833 hk rfl rfl rfl rfl (px_ceq hx (fun hc hx => ?_) (fun hc hx => ?_))
  · refine ev_ls (L' := [some (.retAddr 0), some (.ref 0), some (.ref 247), some (.ref 261), some (.ref 262), some (.int a5), some (.int v594), some (.int v598), u8, none]) (st' := [.int v594]) (pc' := 837) hk (.iload 6) 2 rfl rfl rfl rfl ?_
    refine ev_d1 852 840 hk rfl rfl rfl rfl (px_cne hx (fun hc hx => ?_) (fun hc hx => ?_))
    · refine ev_jp (pc' := 3189) (st' := []) hk (.goto 2337) 3 rfl rfl rfl rfl rfl ?_
      refine ev_ls (L' := [some (.retAddr 0), some (.ref 0), some (.ref 247), some (.ref 261), some (.ref 262), some (.int (a5 + 6)), some (.int v594), some (.int v598), u8, none]) (st' := []) (pc' := 3192) hk (.iinc 5 6) 3 rfl rfl rfl rfl ?_
      refine ev_jp (pc' := 28) (st' := []) hk (.goto (-3164)) 3 rfl rfl rfl rfl rfl ?_
      cases hx
      exact hM (some (.int v594)) (some (.int v598)) rfl u8
    · refine ev_ls (L' := [some (.retAddr 0), some (.ref 0), some (.ref 247), some (.ref 261), some (.ref 262), some (.int a5), some (.int v594), some (.int v598), u8, none]) (st' := [.ref 261]) (pc' := 841) hk (.aload_n 3) 1 rfl rfl rfl rfl ?_
      refine ev_op (st' := [.int 0, .ref 261]) (pc' := 842) hk (.iconst 0) 1 rfl rfl rfl ?_
      refine ev_lal (v := (ou592 0)) rfl 843 hk rfl lk_ou rfl ?_
      refine ev_ls (L' := [some (.retAddr 0), some (.ref 0), some (.ref 247), some (.ref 261), some (.ref 262), some (.int a5), some (.int v594), some (.int v598), u8, none]) (st' := [.int v598, .long (ou592 0)]) (pc' := 845) hk (.iload 7) 2 rfl rfl rfl rfl ?_
      refine ev_op (st' := [.long (Int32.toInt64 v598), .long (ou592 0)]) (pc' := 846) hk (.i2l) 1 rfl rfl rfl ?_
      refine ev_op (st' := [.int (lg_cmp (ou592 0) (Int32.toInt64 v598))]) (pc' := 847) hk (.lcmp) 1 rfl rfl rfl ?_
      refine ev_d1 852 850 hk rfl rfl rfl rfl (px_leq hx (fun hc hx => ?_) (fun hc hx => ?_))
      · refine ev_jp (pc' := 3189) (st' := []) hk (.goto 2337) 3 rfl rfl rfl rfl rfl ?_
        refine ev_ls (L' := [some (.retAddr 0), some (.ref 0), some (.ref 247), some (.ref 261), some (.ref 262), some (.int (a5 + 6)), some (.int v594), some (.int v598), u8, none]) (st' := []) (pc' := 3192) hk (.iinc 5 6) 3 rfl rfl rfl rfl ?_
        refine ev_jp (pc' := 28) (st' := []) hk (.goto (-3164)) 3 rfl rfl rfl rfl rfl ?_
        cases hx
        exact hM (some (.int v594)) (some (.int v598)) rfl u8
      · refine ev_op (st' := [.int 0]) (pc' := 851) hk (.iconst 0) 1 rfl rfl rfl ?_
        cases hx
        obtain rfl := hM
        exact ev_retZ false rfl hk rfl rfl
  · refine ev_op (st' := [.int 0]) (pc' := 834) hk (.iconst 0) 1 rfl rfl rfl ?_
    cases hx
    obtain rfl := hM
    exact ev_retZ false rfl hk rfl rfl
set_option maxRecDepth 4000 in
theorem rw_law_j855 {S : Nat} {xs : Nat → Int32} {I : zI} {C : zC} {Y : Nat → Int32} {Γ : Nat → zG} {D : zD} {O : Nat → Int32} {M : zM} {ou : Nat → Int64} {od : Nat → UInt64} {j : Nat} {a5 : Int32} {y : (Option Value ⊕ String) × px_H} {x : (zI × zC × (Nat → Int32) × (Nat → zG) × zD × (Nat → Int32) × zM × (Nat → Int64) × (Nat → UInt64) × Nat × Int32) ⊕ (Bool × zI × zC × (Nat → Int32) × (Nat → zG) × zD × (Nat → Int32) × zM × (Nat → Int64) × (Nat → UInt64) × Nat)}  (hx : fw_law_j855 S xs I C Y Γ D O M ou od j a5 = some x) (hM : (Sum.elim (qw_law_28 S xs y) (fun X : Bool × zI × zC × (Nat → Int32) × (Nat → zG) × zD × (Nat → Int32) × zM × (Nat → Int64) × (Nat → UInt64) × Nat => y = (((.inl (some (.int (b2i X.1)))), (zH X.2.1 X.2.2.1 X.2.2.2.1 X.2.2.2.2.1 X.2.2.2.2.2.1 X.2.2.2.2.2.2.1 X.2.2.2.2.2.2.2.1 X.2.2.2.2.2.2.2.2.1 X.2.2.2.2.2.2.2.2.2.1 X.2.2.2.2.2.2.2.2.2.2)) : (Option Value ⊕ String) × px_H))) x) (u6 : Option Value) (u7 : Option Value) (hu7 : px_cz u7 = true) (u8 : Option Value) : Ev S xs 412 855 [some (.retAddr 0), some (.ref 0), some (.ref 247), some (.ref 261), some (.ref 262), some (.int a5), u6, u7, u8, none] [] (zH I C Y Γ D O M ou od j) y := by
  have hk : pt_mt[412]? = some pt_r412 := rfl
  unfold fw_law_j855 at hx
  refine ev_ls (L' := [some (.retAddr 0), some (.ref 0), some (.ref 247), some (.ref 261), some (.ref 262), some (.int a5), u6, u7, u8, none]) (st' := [.ref 0]) (pc' := 856) hk (.aload_n 1) 1 rfl rfl rfl rfl ?_
  obtain ⟨v600, hc601, hx⟩ := bnd_some hx
  refine ev_cv 362 0 [.int v600] 859 hk rfl rfl rfl rfl lk_dh rfl rfl rfl (rX_tornSeams hc601) rfl rfl rfl rfl ?_
  refine ev_ls (L' := [some (.retAddr 0), some (.ref 0), some (.ref 247), some (.ref 261), some (.ref 262), some (.int a5), u6, u7, u8, none]) (st' := [.ref 247, .int v600]) (pc' := 860) hk (.aload_n 2) 1 rfl rfl rfl rfl ?_
  obtain ⟨v603, M602, hc604, hx⟩ := bnd2_some hx
  refine ev_cv 186 0 [.int v603, .int v600] 863 hk rfl rfl rfl rfl lk_model rfl rfl rfl (rM_tornSeams hc604) rfl rfl rfl rfl ?_
  refine ev_d2 3189 866 hk rfl rfl rfl rfl (px_ceq hx (fun hc hx => ?_) (fun hc hx => ?_))
  · refine ev_ls (L' := [some (.retAddr 0), some (.ref 0), some (.ref 247), some (.ref 261), some (.ref 262), some (.int (a5 + 6)), u6, u7, u8, none]) (st' := []) (pc' := 3192) hk (.iinc 5 6) 3 rfl rfl rfl rfl ?_
    refine ev_jp (pc' := 28) (st' := []) hk (.goto (-3164)) 3 rfl rfl rfl rfl rfl ?_
    cases hx
    exact hM u6 u7 hu7 u8
  · refine ev_op (st' := [.int 0]) (pc' := 867) hk (.iconst 0) 1 rfl rfl rfl ?_
    cases hx
    obtain rfl := hM
    exact ev_retZ false rfl hk rfl rfl
set_option maxRecDepth 4000 in
theorem rw_law_j868 {S : Nat} {xs : Nat → Int32} {I : zI} {C : zC} {Y : Nat → Int32} {Γ : Nat → zG} {D : zD} {O : Nat → Int32} {M : zM} {ou : Nat → Int64} {od : Nat → UInt64} {j : Nat} {a5 : Int32} {y : (Option Value ⊕ String) × px_H} {x : (zI × zC × (Nat → Int32) × (Nat → zG) × zD × (Nat → Int32) × zM × (Nat → Int64) × (Nat → UInt64) × Nat × Int32) ⊕ (Bool × zI × zC × (Nat → Int32) × (Nat → zG) × zD × (Nat → Int32) × zM × (Nat → Int64) × (Nat → UInt64) × Nat)}  (hx : fw_law_j868 S xs I C Y Γ D O M ou od j a5 = some x) (hM : (Sum.elim (qw_law_28 S xs y) (fun X : Bool × zI × zC × (Nat → Int32) × (Nat → zG) × zD × (Nat → Int32) × zM × (Nat → Int64) × (Nat → UInt64) × Nat => y = (((.inl (some (.int (b2i X.1)))), (zH X.2.1 X.2.2.1 X.2.2.2.1 X.2.2.2.2.1 X.2.2.2.2.2.1 X.2.2.2.2.2.2.1 X.2.2.2.2.2.2.2.1 X.2.2.2.2.2.2.2.2.1 X.2.2.2.2.2.2.2.2.2.1 X.2.2.2.2.2.2.2.2.2.2)) : (Option Value ⊕ String) × px_H))) x) (u6 : Option Value) (u7 : Option Value) (hu7 : px_cz u7 = true) (u8 : Option Value) : Ev S xs 412 868 [some (.retAddr 0), some (.ref 0), some (.ref 247), some (.ref 261), some (.ref 262), some (.int a5), u6, u7, u8, none] [] (zH I C Y Γ D O M ou od j) y := by
  have hk : pt_mt[412]? = some pt_r412 := rfl
  unfold fw_law_j868 at hx
  refine ev_ls (L' := [some (.retAddr 0), some (.ref 0), some (.ref 247), some (.ref 261), some (.ref 262), some (.int a5), u6, u7, u8, none]) (st' := [.ref 0]) (pc' := 869) hk (.aload_n 1) 1 rfl rfl rfl rfl ?_
  refine ev_cv 361 0 [.int (fX_thread Γ)] 872 hk rfl rfl rfl rfl lk_dh rfl rfl rfl (rX_thread rfl) rfl rfl rfl rfl ?_
  refine ev_ls (L' := [some (.retAddr 0), some (.ref 0), some (.ref 247), some (.ref 261), some (.ref 262), some (.int a5), u6, u7, u8, none]) (st' := [.ref 247, .int (fX_thread Γ)]) (pc' := 873) hk (.aload_n 2) 1 rfl rfl rfl rfl ?_
  obtain ⟨v606, M605, hc607, hx⟩ := bnd2_some hx
  refine ev_cv 180 0 [.int v606, .int (fX_thread Γ)] 876 hk rfl rfl rfl rfl lk_model rfl rfl rfl (rM_thread hc607) rfl rfl rfl rfl ?_
  refine ev_d2 3189 879 hk rfl rfl rfl rfl (px_ceq hx (fun hc hx => ?_) (fun hc hx => ?_))
  · refine ev_ls (L' := [some (.retAddr 0), some (.ref 0), some (.ref 247), some (.ref 261), some (.ref 262), some (.int (a5 + 6)), u6, u7, u8, none]) (st' := []) (pc' := 3192) hk (.iinc 5 6) 3 rfl rfl rfl rfl ?_
    refine ev_jp (pc' := 28) (st' := []) hk (.goto (-3164)) 3 rfl rfl rfl rfl rfl ?_
    cases hx
    exact hM u6 u7 hu7 u8
  · refine ev_op (st' := [.int 0]) (pc' := 880) hk (.iconst 0) 1 rfl rfl rfl ?_
    cases hx
    obtain rfl := hM
    exact ev_retZ false rfl hk rfl rfl
set_option maxRecDepth 4000 in
theorem rw_law_j881 {S : Nat} {xs : Nat → Int32} {I : zI} {C : zC} {Y : Nat → Int32} {Γ : Nat → zG} {D : zD} {O : Nat → Int32} {M : zM} {ou : Nat → Int64} {od : Nat → UInt64} {j : Nat} {a5 : Int32} {y : (Option Value ⊕ String) × px_H} {x : (zI × zC × (Nat → Int32) × (Nat → zG) × zD × (Nat → Int32) × zM × (Nat → Int64) × (Nat → UInt64) × Nat × Int32) ⊕ (Bool × zI × zC × (Nat → Int32) × (Nat → zG) × zD × (Nat → Int32) × zM × (Nat → Int64) × (Nat → UInt64) × Nat)}  (hx : fw_law_j881 S xs I C Y Γ D O M ou od j a5 = some x) (hM : (Sum.elim (qw_law_28 S xs y) (fun X : Bool × zI × zC × (Nat → Int32) × (Nat → zG) × zD × (Nat → Int32) × zM × (Nat → Int64) × (Nat → UInt64) × Nat => y = (((.inl (some (.int (b2i X.1)))), (zH X.2.1 X.2.2.1 X.2.2.2.1 X.2.2.2.2.1 X.2.2.2.2.2.1 X.2.2.2.2.2.2.1 X.2.2.2.2.2.2.2.1 X.2.2.2.2.2.2.2.2.1 X.2.2.2.2.2.2.2.2.2.1 X.2.2.2.2.2.2.2.2.2.2)) : (Option Value ⊕ String) × px_H))) x) (u6 : Option Value) (u7 : Option Value) (hu7 : px_cz u7 = true) (u8 : Option Value) : Ev S xs 412 881 [some (.retAddr 0), some (.ref 0), some (.ref 247), some (.ref 261), some (.ref 262), some (.int a5), u6, u7, u8, none] [] (zH I C Y Γ D O M ou od j) y := by
  have hk : pt_mt[412]? = some pt_r412 := rfl
  unfold fw_law_j881 at hx
  refine ev_ls (L' := [some (.retAddr 0), some (.ref 0), some (.ref 247), some (.ref 261), some (.ref 262), some (.int a5), u6, u7, u8, none]) (st' := [.ref 0]) (pc' := 882) hk (.aload_n 1) 1 rfl rfl rfl rfl ?_
  refine ev_ls (L' := [some (.retAddr 0), some (.ref 0), some (.ref 247), some (.ref 261), some (.ref 262), some (.int a5), u6, u7, u8, none]) (st' := [.retAddr 0, .ref 0]) (pc' := 883) hk (.aload_n 0) 1 rfl rfl rfl rfl ?_
  refine ev_ls (L' := [some (.retAddr 0), some (.ref 0), some (.ref 247), some (.ref 261), some (.ref 262), some (.int a5), u6, u7, u8, none]) (st' := [.int a5, .retAddr 0, .ref 0]) (pc' := 885) hk (.iload 5) 2 rfl rfl rfl rfl ?_
  refine ev_op (st' := [.int 1, .int a5, .retAddr 0, .ref 0]) (pc' := 886) hk (.iconst 1) 1 rfl rfl rfl ?_
  refine ev_op (st' := [.int (a5 + 1), .retAddr 0, .ref 0]) (pc' := 887) hk (.iadd) 1 rfl rfl rfl ?_
  obtain ⟨v608, hv608, hx⟩ := bnd_some hx
  refine ev_sal hv608 888 hk rfl rfl ?_
  refine ev_ls (L' := [some (.retAddr 0), some (.ref 0), some (.ref 247), some (.ref 261), some (.ref 262), some (.int a5), u6, u7, u8, none]) (st' := [.ref 261, .int v608, .ref 0]) (pc' := 889) hk (.aload_n 3) 1 rfl rfl rfl rfl ?_
  obtain ⟨v611, ou609, j610, hc612, hx⟩ := bnd3_some hx
  refine ev_cs 379 3 [.int v611] 892 hk rfl rfl (by decide) rfl rfl rfl (rw_hemAt hc612) rfl rfl rfl rfl ?_
  refine ev_ls (L' := [some (.retAddr 0), some (.ref 0), some (.ref 247), some (.ref 261), some (.ref 262), some (.int a5), some (.int v611), u7, u8, none]) (st' := []) (pc' := 894) hk (.istore 6) 2 rfl rfl rfl rfl ?_
  refine ev_ls (L' := [some (.retAddr 0), some (.ref 0), some (.ref 247), some (.ref 261), some (.ref 262), some (.int a5), some (.int v611), u7, u8, none]) (st' := [.ref 247]) (pc' := 895) hk (.aload_n 2) 1 rfl rfl rfl rfl ?_
  refine ev_ls (L' := [some (.retAddr 0), some (.ref 0), some (.ref 247), some (.ref 261), some (.ref 262), some (.int a5), some (.int v611), u7, u8, none]) (st' := [.retAddr 0, .ref 247]) (pc' := 896) hk (.aload_n 0) 1 rfl rfl rfl rfl ?_
  refine ev_ls (L' := [some (.retAddr 0), some (.ref 0), some (.ref 247), some (.ref 261), some (.ref 262), some (.int a5), some (.int v611), u7, u8, none]) (st' := [.int a5, .retAddr 0, .ref 247]) (pc' := 898) hk (.iload 5) 2 rfl rfl rfl rfl ?_
  refine ev_op (st' := [.int 1, .int a5, .retAddr 0, .ref 247]) (pc' := 899) hk (.iconst 1) 1 rfl rfl rfl ?_
  refine ev_op (st' := [.int (a5 + 1), .retAddr 0, .ref 247]) (pc' := 900) hk (.iadd) 1 rfl rfl rfl ?_
  obtain ⟨v613, hv613, hx⟩ := bnd_some hx
  refine ev_sal hv613 901 hk rfl rfl ?_
  obtain ⟨v615, M614, hc616, hx⟩ := bnd2_some hx
  refine ev_cv 67 1 [.int v615] 904 hk rfl rfl rfl rfl lk_model rfl rfl rfl (rM_hemAt hc616) rfl rfl rfl rfl ?_
  refine ev_ls (L' := [some (.retAddr 0), some (.ref 0), some (.ref 247), some (.ref 261), some (.ref 262), some (.int a5), some (.int v611), some (.int v615), u8, none]) (st' := []) (pc' := 906) hk (.istore 7) 2 rfl rfl rfl rfl ?_
  refine ev_ls (L' := [some (.retAddr 0), some (.ref 0), some (.ref 247), some (.ref 261), some (.ref 262), some (.int a5), some (.int v611), some (.int v615), u8, none]) (st' := [.ref 247]) (pc' := 907) hk (.aload_n 2) 1 rfl rfl rfl rfl ?_
  refine ev_cv 183 0 [.int (fM_thrown M614)] 910 hk rfl rfl rfl rfl lk_model rfl rfl rfl (rM_thrown rfl) rfl rfl rfl rfl ?_
  refine ev_ls (L' := [some (.retAddr 0), some (.ref 0), some (.ref 247), some (.ref 261), some (.ref 262), some (.int a5), some (.int v611), some (.int v615), u8, none]) (st' := [.int v611, .int (fM_thrown M614)]) (pc' := 912) hk (.iload 6) 2 rfl rfl rfl rfl ?_
  refine ev_d2 917 915 hk rfl rfl rfl rfl (px_ceq hx (fun hc hx => ?_) (fun hc hx => ?_))
  · refine ev_ls (L' := [some (.retAddr 0), some (.ref 0), some (.ref 247), some (.ref 261), some (.ref 262), some (.int a5), some (.int v611), some (.int v615), u8, none]) (st' := [.int v611]) (pc' := 919) hk (.iload 6) 2 rfl rfl rfl rfl ?_
    refine ev_d1 934 922 hk rfl rfl rfl rfl (px_cne hx (fun hc hx => ?_) (fun hc hx => ?_))
    · refine ev_jp (pc' := 3189) (st' := []) hk (.goto 2255) 3 rfl rfl rfl rfl rfl ?_
      refine ev_ls (L' := [some (.retAddr 0), some (.ref 0), some (.ref 247), some (.ref 261), some (.ref 262), some (.int (a5 + 6)), some (.int v611), some (.int v615), u8, none]) (st' := []) (pc' := 3192) hk (.iinc 5 6) 3 rfl rfl rfl rfl ?_
      refine ev_jp (pc' := 28) (st' := []) hk (.goto (-3164)) 3 rfl rfl rfl rfl rfl ?_
      cases hx
      exact hM (some (.int v611)) (some (.int v615)) rfl u8
    · refine ev_ls (L' := [some (.retAddr 0), some (.ref 0), some (.ref 247), some (.ref 261), some (.ref 262), some (.int a5), some (.int v611), some (.int v615), u8, none]) (st' := [.ref 261]) (pc' := 923) hk (.aload_n 3) 1 rfl rfl rfl rfl ?_
      refine ev_op (st' := [.int 0, .ref 261]) (pc' := 924) hk (.iconst 0) 1 rfl rfl rfl ?_
      refine ev_lal (v := (ou609 0)) rfl 925 hk rfl lk_ou rfl ?_
      refine ev_ls (L' := [some (.retAddr 0), some (.ref 0), some (.ref 247), some (.ref 261), some (.ref 262), some (.int a5), some (.int v611), some (.int v615), u8, none]) (st' := [.int v615, .long (ou609 0)]) (pc' := 927) hk (.iload 7) 2 rfl rfl rfl rfl ?_
      refine ev_op (st' := [.long (Int32.toInt64 v615), .long (ou609 0)]) (pc' := 928) hk (.i2l) 1 rfl rfl rfl ?_
      refine ev_op (st' := [.int (lg_cmp (ou609 0) (Int32.toInt64 v615))]) (pc' := 929) hk (.lcmp) 1 rfl rfl rfl ?_
      refine ev_d1 934 932 hk rfl rfl rfl rfl (px_leq hx (fun hc hx => ?_) (fun hc hx => ?_))
      · refine ev_jp (pc' := 3189) (st' := []) hk (.goto 2255) 3 rfl rfl rfl rfl rfl ?_
        refine ev_ls (L' := [some (.retAddr 0), some (.ref 0), some (.ref 247), some (.ref 261), some (.ref 262), some (.int (a5 + 6)), some (.int v611), some (.int v615), u8, none]) (st' := []) (pc' := 3192) hk (.iinc 5 6) 3 rfl rfl rfl rfl ?_
        refine ev_jp (pc' := 28) (st' := []) hk (.goto (-3164)) 3 rfl rfl rfl rfl rfl ?_
        cases hx
        exact hM (some (.int v611)) (some (.int v615)) rfl u8
      · refine ev_op (st' := [.int 0]) (pc' := 933) hk (.iconst 0) 1 rfl rfl rfl ?_
        cases hx
        obtain rfl := hM
        exact ev_retZ false rfl hk rfl rfl
  · refine ev_op (st' := [.int 0]) (pc' := 916) hk (.iconst 0) 1 rfl rfl rfl ?_
    cases hx
    obtain rfl := hM
    exact ev_retZ false rfl hk rfl rfl
set_option maxRecDepth 4000 in
theorem rw_law_j937 {S : Nat} {xs : Nat → Int32} {I : zI} {C : zC} {Y : Nat → Int32} {Γ : Nat → zG} {D : zD} {O : Nat → Int32} {M : zM} {ou : Nat → Int64} {od : Nat → UInt64} {j : Nat} {a5 : Int32} {y : (Option Value ⊕ String) × px_H} {x : (zI × zC × (Nat → Int32) × (Nat → zG) × zD × (Nat → Int32) × zM × (Nat → Int64) × (Nat → UInt64) × Nat × Int32) ⊕ (Bool × zI × zC × (Nat → Int32) × (Nat → zG) × zD × (Nat → Int32) × zM × (Nat → Int64) × (Nat → UInt64) × Nat)}  (hx : fw_law_j937 S xs I C Y Γ D O M ou od j a5 = some x) (hM : (Sum.elim (qw_law_28 S xs y) (fun X : Bool × zI × zC × (Nat → Int32) × (Nat → zG) × zD × (Nat → Int32) × zM × (Nat → Int64) × (Nat → UInt64) × Nat => y = (((.inl (some (.int (b2i X.1)))), (zH X.2.1 X.2.2.1 X.2.2.2.1 X.2.2.2.2.1 X.2.2.2.2.2.1 X.2.2.2.2.2.2.1 X.2.2.2.2.2.2.2.1 X.2.2.2.2.2.2.2.2.1 X.2.2.2.2.2.2.2.2.2.1 X.2.2.2.2.2.2.2.2.2.2)) : (Option Value ⊕ String) × px_H))) x) (u6 : Option Value) (u7 : Option Value) (hu7 : px_cz u7 = true) (u8 : Option Value) : Ev S xs 412 937 [some (.retAddr 0), some (.ref 0), some (.ref 247), some (.ref 261), some (.ref 262), some (.int a5), u6, u7, u8, none] [] (zH I C Y Γ D O M ou od j) y := by
  have hk : pt_mt[412]? = some pt_r412 := rfl
  unfold fw_law_j937 at hx
  refine ev_ls (L' := [some (.retAddr 0), some (.ref 0), some (.ref 247), some (.ref 261), some (.ref 262), some (.int a5), u6, u7, u8, none]) (st' := [.ref 0]) (pc' := 938) hk (.aload_n 1) 1 rfl rfl rfl rfl ?_
  refine ev_ls (L' := [some (.retAddr 0), some (.ref 0), some (.ref 247), some (.ref 261), some (.ref 262), some (.int a5), u6, u7, u8, none]) (st' := [.retAddr 0, .ref 0]) (pc' := 939) hk (.aload_n 0) 1 rfl rfl rfl rfl ?_
  refine ev_ls (L' := [some (.retAddr 0), some (.ref 0), some (.ref 247), some (.ref 261), some (.ref 262), some (.int a5), u6, u7, u8, none]) (st' := [.int a5, .retAddr 0, .ref 0]) (pc' := 941) hk (.iload 5) 2 rfl rfl rfl rfl ?_
  refine ev_op (st' := [.int 1, .int a5, .retAddr 0, .ref 0]) (pc' := 942) hk (.iconst 1) 1 rfl rfl rfl ?_
  refine ev_op (st' := [.int (a5 + 1), .retAddr 0, .ref 0]) (pc' := 943) hk (.iadd) 1 rfl rfl rfl ?_
  obtain ⟨v617, hv617, hx⟩ := bnd_some hx
  refine ev_sal hv617 944 hk rfl rfl ?_
  refine ev_ls (L' := [some (.retAddr 0), some (.ref 0), some (.ref 247), some (.ref 261), some (.ref 262), some (.int a5), u6, u7, u8, none]) (st' := [.retAddr 0, .int v617, .ref 0]) (pc' := 945) hk (.aload_n 0) 1 rfl rfl rfl rfl ?_
  refine ev_ls (L' := [some (.retAddr 0), some (.ref 0), some (.ref 247), some (.ref 261), some (.ref 262), some (.int a5), u6, u7, u8, none]) (st' := [.int a5, .retAddr 0, .int v617, .ref 0]) (pc' := 947) hk (.iload 5) 2 rfl rfl rfl rfl ?_
  refine ev_op (st' := [.int 2, .int a5, .retAddr 0, .int v617, .ref 0]) (pc' := 948) hk (.iconst 2) 1 rfl rfl rfl ?_
  refine ev_op (st' := [.int (a5 + 2), .retAddr 0, .int v617, .ref 0]) (pc' := 949) hk (.iadd) 1 rfl rfl rfl ?_
  obtain ⟨v618, hv618, hx⟩ := bnd_some hx
  refine ev_sal hv618 950 hk rfl rfl ?_
  refine ev_ls (L' := [some (.retAddr 0), some (.ref 0), some (.ref 247), some (.ref 261), some (.ref 262), some (.int a5), u6, u7, u8, none]) (st' := [.ref 261, .int v618, .int v617, .ref 0]) (pc' := 951) hk (.aload_n 3) 1 rfl rfl rfl rfl ?_
  obtain ⟨v621, ou619, j620, hc622, hx⟩ := bnd3_some hx
  refine ev_cs 391 4 [.int v621] 954 hk rfl rfl (by decide) rfl rfl rfl (rw_longitude hc622) rfl rfl rfl rfl ?_
  refine ev_ls (L' := [some (.retAddr 0), some (.ref 0), some (.ref 247), some (.ref 261), some (.ref 262), some (.int a5), some (.int v621), u7, u8, none]) (st' := []) (pc' := 956) hk (.istore 6) 2 rfl rfl rfl rfl ?_
  refine ev_ls (L' := [some (.retAddr 0), some (.ref 0), some (.ref 247), some (.ref 261), some (.ref 262), some (.int a5), some (.int v621), u7, u8, none]) (st' := [.ref 247]) (pc' := 957) hk (.aload_n 2) 1 rfl rfl rfl rfl ?_
  refine ev_ls (L' := [some (.retAddr 0), some (.ref 0), some (.ref 247), some (.ref 261), some (.ref 262), some (.int a5), some (.int v621), u7, u8, none]) (st' := [.retAddr 0, .ref 247]) (pc' := 958) hk (.aload_n 0) 1 rfl rfl rfl rfl ?_
  refine ev_ls (L' := [some (.retAddr 0), some (.ref 0), some (.ref 247), some (.ref 261), some (.ref 262), some (.int a5), some (.int v621), u7, u8, none]) (st' := [.int a5, .retAddr 0, .ref 247]) (pc' := 960) hk (.iload 5) 2 rfl rfl rfl rfl ?_
  refine ev_op (st' := [.int 1, .int a5, .retAddr 0, .ref 247]) (pc' := 961) hk (.iconst 1) 1 rfl rfl rfl ?_
  refine ev_op (st' := [.int (a5 + 1), .retAddr 0, .ref 247]) (pc' := 962) hk (.iadd) 1 rfl rfl rfl ?_
  obtain ⟨v623, hv623, hx⟩ := bnd_some hx
  refine ev_sal hv623 963 hk rfl rfl ?_
  refine ev_ls (L' := [some (.retAddr 0), some (.ref 0), some (.ref 247), some (.ref 261), some (.ref 262), some (.int a5), some (.int v621), u7, u8, none]) (st' := [.retAddr 0, .int v623, .ref 247]) (pc' := 964) hk (.aload_n 0) 1 rfl rfl rfl rfl ?_
  refine ev_ls (L' := [some (.retAddr 0), some (.ref 0), some (.ref 247), some (.ref 261), some (.ref 262), some (.int a5), some (.int v621), u7, u8, none]) (st' := [.int a5, .retAddr 0, .int v623, .ref 247]) (pc' := 966) hk (.iload 5) 2 rfl rfl rfl rfl ?_
  refine ev_op (st' := [.int 2, .int a5, .retAddr 0, .int v623, .ref 247]) (pc' := 967) hk (.iconst 2) 1 rfl rfl rfl ?_
  refine ev_op (st' := [.int (a5 + 2), .retAddr 0, .int v623, .ref 247]) (pc' := 968) hk (.iadd) 1 rfl rfl rfl ?_
  obtain ⟨v624, hv624, hx⟩ := bnd_some hx
  refine ev_sal hv624 969 hk rfl rfl ?_
  obtain ⟨v626, M625, hc627, hx⟩ := bnd2_some hx
  refine ev_cv 126 2 [.int v626] 972 hk rfl rfl rfl rfl lk_model rfl rfl rfl (rM_longitude hc627) rfl rfl rfl rfl ?_
  refine ev_ls (L' := [some (.retAddr 0), some (.ref 0), some (.ref 247), some (.ref 261), some (.ref 262), some (.int a5), some (.int v621), some (.int v626), u8, none]) (st' := []) (pc' := 974) hk (.istore 7) 2 rfl rfl rfl rfl ?_
  refine ev_ls (L' := [some (.retAddr 0), some (.ref 0), some (.ref 247), some (.ref 261), some (.ref 262), some (.int a5), some (.int v621), some (.int v626), u8, none]) (st' := [.ref 247]) (pc' := 975) hk (.aload_n 2) 1 rfl rfl rfl rfl ?_
  refine ev_cv 183 0 [.int (fM_thrown M625)] 978 hk rfl rfl rfl rfl lk_model rfl rfl rfl (rM_thrown rfl) rfl rfl rfl rfl ?_
  refine ev_ls (L' := [some (.retAddr 0), some (.ref 0), some (.ref 247), some (.ref 261), some (.ref 262), some (.int a5), some (.int v621), some (.int v626), u8, none]) (st' := [.int v621, .int (fM_thrown M625)]) (pc' := 980) hk (.iload 6) 2 rfl rfl rfl rfl ?_
  refine ev_d2 985 983 hk rfl rfl rfl rfl (px_ceq hx (fun hc hx => ?_) (fun hc hx => ?_))
  · refine ev_ls (L' := [some (.retAddr 0), some (.ref 0), some (.ref 247), some (.ref 261), some (.ref 262), some (.int a5), some (.int v621), some (.int v626), u8, none]) (st' := [.int v621]) (pc' := 987) hk (.iload 6) 2 rfl rfl rfl rfl ?_
    refine ev_d1 1002 990 hk rfl rfl rfl rfl (px_cne hx (fun hc hx => ?_) (fun hc hx => ?_))
    · refine ev_jp (pc' := 3189) (st' := []) hk (.goto 2187) 3 rfl rfl rfl rfl rfl ?_
      refine ev_ls (L' := [some (.retAddr 0), some (.ref 0), some (.ref 247), some (.ref 261), some (.ref 262), some (.int (a5 + 6)), some (.int v621), some (.int v626), u8, none]) (st' := []) (pc' := 3192) hk (.iinc 5 6) 3 rfl rfl rfl rfl ?_
      refine ev_jp (pc' := 28) (st' := []) hk (.goto (-3164)) 3 rfl rfl rfl rfl rfl ?_
      cases hx
      exact hM (some (.int v621)) (some (.int v626)) rfl u8
    · refine ev_ls (L' := [some (.retAddr 0), some (.ref 0), some (.ref 247), some (.ref 261), some (.ref 262), some (.int a5), some (.int v621), some (.int v626), u8, none]) (st' := [.ref 261]) (pc' := 991) hk (.aload_n 3) 1 rfl rfl rfl rfl ?_
      refine ev_op (st' := [.int 0, .ref 261]) (pc' := 992) hk (.iconst 0) 1 rfl rfl rfl ?_
      refine ev_lal (v := (ou619 0)) rfl 993 hk rfl lk_ou rfl ?_
      refine ev_ls (L' := [some (.retAddr 0), some (.ref 0), some (.ref 247), some (.ref 261), some (.ref 262), some (.int a5), some (.int v621), some (.int v626), u8, none]) (st' := [.int v626, .long (ou619 0)]) (pc' := 995) hk (.iload 7) 2 rfl rfl rfl rfl ?_
      refine ev_op (st' := [.long (Int32.toInt64 v626), .long (ou619 0)]) (pc' := 996) hk (.i2l) 1 rfl rfl rfl ?_
      refine ev_op (st' := [.int (lg_cmp (ou619 0) (Int32.toInt64 v626))]) (pc' := 997) hk (.lcmp) 1 rfl rfl rfl ?_
      refine ev_d1 1002 1000 hk rfl rfl rfl rfl (px_leq hx (fun hc hx => ?_) (fun hc hx => ?_))
      · refine ev_jp (pc' := 3189) (st' := []) hk (.goto 2187) 3 rfl rfl rfl rfl rfl ?_
        refine ev_ls (L' := [some (.retAddr 0), some (.ref 0), some (.ref 247), some (.ref 261), some (.ref 262), some (.int (a5 + 6)), some (.int v621), some (.int v626), u8, none]) (st' := []) (pc' := 3192) hk (.iinc 5 6) 3 rfl rfl rfl rfl ?_
        refine ev_jp (pc' := 28) (st' := []) hk (.goto (-3164)) 3 rfl rfl rfl rfl rfl ?_
        cases hx
        exact hM (some (.int v621)) (some (.int v626)) rfl u8
      · refine ev_op (st' := [.int 0]) (pc' := 1001) hk (.iconst 0) 1 rfl rfl rfl ?_
        cases hx
        obtain rfl := hM
        exact ev_retZ false rfl hk rfl rfl
  · refine ev_op (st' := [.int 0]) (pc' := 984) hk (.iconst 0) 1 rfl rfl rfl ?_
    cases hx
    obtain rfl := hM
    exact ev_retZ false rfl hk rfl rfl
set_option maxRecDepth 4000 in
theorem rw_law_j1005 {S : Nat} {xs : Nat → Int32} {I : zI} {C : zC} {Y : Nat → Int32} {Γ : Nat → zG} {D : zD} {O : Nat → Int32} {M : zM} {ou : Nat → Int64} {od : Nat → UInt64} {j : Nat} {a5 : Int32} {y : (Option Value ⊕ String) × px_H} {x : (zI × zC × (Nat → Int32) × (Nat → zG) × zD × (Nat → Int32) × zM × (Nat → Int64) × (Nat → UInt64) × Nat × Int32) ⊕ (Bool × zI × zC × (Nat → Int32) × (Nat → zG) × zD × (Nat → Int32) × zM × (Nat → Int64) × (Nat → UInt64) × Nat)}  (hx : fw_law_j1005 S xs I C Y Γ D O M ou od j a5 = some x) (hM : (Sum.elim (qw_law_28 S xs y) (fun X : Bool × zI × zC × (Nat → Int32) × (Nat → zG) × zD × (Nat → Int32) × zM × (Nat → Int64) × (Nat → UInt64) × Nat => y = (((.inl (some (.int (b2i X.1)))), (zH X.2.1 X.2.2.1 X.2.2.2.1 X.2.2.2.2.1 X.2.2.2.2.2.1 X.2.2.2.2.2.2.1 X.2.2.2.2.2.2.2.1 X.2.2.2.2.2.2.2.2.1 X.2.2.2.2.2.2.2.2.2.1 X.2.2.2.2.2.2.2.2.2.2)) : (Option Value ⊕ String) × px_H))) x) (u6 : Option Value) (u7 : Option Value) (hu7 : px_cz u7 = true) (u8 : Option Value) : Ev S xs 412 1005 [some (.retAddr 0), some (.ref 0), some (.ref 247), some (.ref 261), some (.ref 262), some (.int a5), u6, u7, u8, none] [] (zH I C Y Γ D O M ou od j) y := by
  have hk : pt_mt[412]? = some pt_r412 := rfl
  unfold fw_law_j1005 at hx
  refine ev_ls (L' := [some (.retAddr 0), some (.ref 0), some (.ref 247), some (.ref 261), some (.ref 262), some (.int a5), u6, u7, u8, none]) (st' := [.ref 0]) (pc' := 1006) hk (.aload_n 1) 1 rfl rfl rfl rfl ?_
  refine ev_ls (L' := [some (.retAddr 0), some (.ref 0), some (.ref 247), some (.ref 261), some (.ref 262), some (.int a5), u6, u7, u8, none]) (st' := [.retAddr 0, .ref 0]) (pc' := 1007) hk (.aload_n 0) 1 rfl rfl rfl rfl ?_
  refine ev_ls (L' := [some (.retAddr 0), some (.ref 0), some (.ref 247), some (.ref 261), some (.ref 262), some (.int a5), u6, u7, u8, none]) (st' := [.int a5, .retAddr 0, .ref 0]) (pc' := 1009) hk (.iload 5) 2 rfl rfl rfl rfl ?_
  refine ev_op (st' := [.int 1, .int a5, .retAddr 0, .ref 0]) (pc' := 1010) hk (.iconst 1) 1 rfl rfl rfl ?_
  refine ev_op (st' := [.int (a5 + 1), .retAddr 0, .ref 0]) (pc' := 1011) hk (.iadd) 1 rfl rfl rfl ?_
  obtain ⟨v628, hv628, hx⟩ := bnd_some hx
  refine ev_sal hv628 1012 hk rfl rfl ?_
  refine ev_ls (L' := [some (.retAddr 0), some (.ref 0), some (.ref 247), some (.ref 261), some (.ref 262), some (.int a5), u6, u7, u8, none]) (st' := [.retAddr 0, .int v628, .ref 0]) (pc' := 1013) hk (.aload_n 0) 1 rfl rfl rfl rfl ?_
  refine ev_ls (L' := [some (.retAddr 0), some (.ref 0), some (.ref 247), some (.ref 261), some (.ref 262), some (.int a5), u6, u7, u8, none]) (st' := [.int a5, .retAddr 0, .int v628, .ref 0]) (pc' := 1015) hk (.iload 5) 2 rfl rfl rfl rfl ?_
  refine ev_op (st' := [.int 2, .int a5, .retAddr 0, .int v628, .ref 0]) (pc' := 1016) hk (.iconst 2) 1 rfl rfl rfl ?_
  refine ev_op (st' := [.int (a5 + 2), .retAddr 0, .int v628, .ref 0]) (pc' := 1017) hk (.iadd) 1 rfl rfl rfl ?_
  obtain ⟨v629, hv629, hx⟩ := bnd_some hx
  refine ev_sal hv629 1018 hk rfl rfl ?_
  refine ev_ls (L' := [some (.retAddr 0), some (.ref 0), some (.ref 247), some (.ref 261), some (.ref 262), some (.int a5), u6, u7, u8, none]) (st' := [.ref 261, .int v629, .int v628, .ref 0]) (pc' := 1019) hk (.aload_n 3) 1 rfl rfl rfl rfl ?_
  obtain ⟨v632, ou630, j631, hc633, hx⟩ := bnd3_some hx
  refine ev_cs 374 4 [.int v632] 1022 hk rfl rfl (by decide) rfl rfl rfl (rw_dayAt hc633) rfl rfl rfl rfl ?_
  refine ev_ls (L' := [some (.retAddr 0), some (.ref 0), some (.ref 247), some (.ref 261), some (.ref 262), some (.int a5), some (.int v632), u7, u8, none]) (st' := []) (pc' := 1024) hk (.istore 6) 2 rfl rfl rfl rfl ?_
  refine ev_ls (L' := [some (.retAddr 0), some (.ref 0), some (.ref 247), some (.ref 261), some (.ref 262), some (.int a5), some (.int v632), u7, u8, none]) (st' := [.ref 247]) (pc' := 1025) hk (.aload_n 2) 1 rfl rfl rfl rfl ?_
  refine ev_ls (L' := [some (.retAddr 0), some (.ref 0), some (.ref 247), some (.ref 261), some (.ref 262), some (.int a5), some (.int v632), u7, u8, none]) (st' := [.retAddr 0, .ref 247]) (pc' := 1026) hk (.aload_n 0) 1 rfl rfl rfl rfl ?_
  refine ev_ls (L' := [some (.retAddr 0), some (.ref 0), some (.ref 247), some (.ref 261), some (.ref 262), some (.int a5), some (.int v632), u7, u8, none]) (st' := [.int a5, .retAddr 0, .ref 247]) (pc' := 1028) hk (.iload 5) 2 rfl rfl rfl rfl ?_
  refine ev_op (st' := [.int 1, .int a5, .retAddr 0, .ref 247]) (pc' := 1029) hk (.iconst 1) 1 rfl rfl rfl ?_
  refine ev_op (st' := [.int (a5 + 1), .retAddr 0, .ref 247]) (pc' := 1030) hk (.iadd) 1 rfl rfl rfl ?_
  obtain ⟨v634, hv634, hx⟩ := bnd_some hx
  refine ev_sal hv634 1031 hk rfl rfl ?_
  refine ev_ls (L' := [some (.retAddr 0), some (.ref 0), some (.ref 247), some (.ref 261), some (.ref 262), some (.int a5), some (.int v632), u7, u8, none]) (st' := [.retAddr 0, .int v634, .ref 247]) (pc' := 1032) hk (.aload_n 0) 1 rfl rfl rfl rfl ?_
  refine ev_ls (L' := [some (.retAddr 0), some (.ref 0), some (.ref 247), some (.ref 261), some (.ref 262), some (.int a5), some (.int v632), u7, u8, none]) (st' := [.int a5, .retAddr 0, .int v634, .ref 247]) (pc' := 1034) hk (.iload 5) 2 rfl rfl rfl rfl ?_
  refine ev_op (st' := [.int 2, .int a5, .retAddr 0, .int v634, .ref 247]) (pc' := 1035) hk (.iconst 2) 1 rfl rfl rfl ?_
  refine ev_op (st' := [.int (a5 + 2), .retAddr 0, .int v634, .ref 247]) (pc' := 1036) hk (.iadd) 1 rfl rfl rfl ?_
  obtain ⟨v635, hv635, hx⟩ := bnd_some hx
  refine ev_sal hv635 1037 hk rfl rfl ?_
  obtain ⟨v637, M636, hc638, hx⟩ := bnd2_some hx
  refine ev_cv 42 2 [.int v637] 1040 hk rfl rfl rfl rfl lk_model rfl rfl rfl (rM_dayAt hc638) rfl rfl rfl rfl ?_
  refine ev_ls (L' := [some (.retAddr 0), some (.ref 0), some (.ref 247), some (.ref 261), some (.ref 262), some (.int a5), some (.int v632), some (.int v637), u8, none]) (st' := []) (pc' := 1042) hk (.istore 7) 2 rfl rfl rfl rfl ?_
  refine ev_ls (L' := [some (.retAddr 0), some (.ref 0), some (.ref 247), some (.ref 261), some (.ref 262), some (.int a5), some (.int v632), some (.int v637), u8, none]) (st' := [.ref 247]) (pc' := 1043) hk (.aload_n 2) 1 rfl rfl rfl rfl ?_
  refine ev_cv 183 0 [.int (fM_thrown M636)] 1046 hk rfl rfl rfl rfl lk_model rfl rfl rfl (rM_thrown rfl) rfl rfl rfl rfl ?_
  refine ev_ls (L' := [some (.retAddr 0), some (.ref 0), some (.ref 247), some (.ref 261), some (.ref 262), some (.int a5), some (.int v632), some (.int v637), u8, none]) (st' := [.int v632, .int (fM_thrown M636)]) (pc' := 1048) hk (.iload 6) 2 rfl rfl rfl rfl ?_
  refine ev_d2 1053 1051 hk rfl rfl rfl rfl (px_ceq hx (fun hc hx => ?_) (fun hc hx => ?_))
  · refine ev_ls (L' := [some (.retAddr 0), some (.ref 0), some (.ref 247), some (.ref 261), some (.ref 262), some (.int a5), some (.int v632), some (.int v637), u8, none]) (st' := [.int v632]) (pc' := 1055) hk (.iload 6) 2 rfl rfl rfl rfl ?_
    refine ev_d1 1070 1058 hk rfl rfl rfl rfl (px_cne hx (fun hc hx => ?_) (fun hc hx => ?_))
    · refine ev_jp (pc' := 3189) (st' := []) hk (.goto 2119) 3 rfl rfl rfl rfl rfl ?_
      refine ev_ls (L' := [some (.retAddr 0), some (.ref 0), some (.ref 247), some (.ref 261), some (.ref 262), some (.int (a5 + 6)), some (.int v632), some (.int v637), u8, none]) (st' := []) (pc' := 3192) hk (.iinc 5 6) 3 rfl rfl rfl rfl ?_
      refine ev_jp (pc' := 28) (st' := []) hk (.goto (-3164)) 3 rfl rfl rfl rfl rfl ?_
      cases hx
      exact hM (some (.int v632)) (some (.int v637)) rfl u8
    · refine ev_ls (L' := [some (.retAddr 0), some (.ref 0), some (.ref 247), some (.ref 261), some (.ref 262), some (.int a5), some (.int v632), some (.int v637), u8, none]) (st' := [.ref 261]) (pc' := 1059) hk (.aload_n 3) 1 rfl rfl rfl rfl ?_
      refine ev_op (st' := [.int 0, .ref 261]) (pc' := 1060) hk (.iconst 0) 1 rfl rfl rfl ?_
      refine ev_lal (v := (ou630 0)) rfl 1061 hk rfl lk_ou rfl ?_
      refine ev_ls (L' := [some (.retAddr 0), some (.ref 0), some (.ref 247), some (.ref 261), some (.ref 262), some (.int a5), some (.int v632), some (.int v637), u8, none]) (st' := [.int v637, .long (ou630 0)]) (pc' := 1063) hk (.iload 7) 2 rfl rfl rfl rfl ?_
      refine ev_op (st' := [.long (Int32.toInt64 v637), .long (ou630 0)]) (pc' := 1064) hk (.i2l) 1 rfl rfl rfl ?_
      refine ev_op (st' := [.int (lg_cmp (ou630 0) (Int32.toInt64 v637))]) (pc' := 1065) hk (.lcmp) 1 rfl rfl rfl ?_
      refine ev_d1 1070 1068 hk rfl rfl rfl rfl (px_leq hx (fun hc hx => ?_) (fun hc hx => ?_))
      · refine ev_jp (pc' := 3189) (st' := []) hk (.goto 2119) 3 rfl rfl rfl rfl rfl ?_
        refine ev_ls (L' := [some (.retAddr 0), some (.ref 0), some (.ref 247), some (.ref 261), some (.ref 262), some (.int (a5 + 6)), some (.int v632), some (.int v637), u8, none]) (st' := []) (pc' := 3192) hk (.iinc 5 6) 3 rfl rfl rfl rfl ?_
        refine ev_jp (pc' := 28) (st' := []) hk (.goto (-3164)) 3 rfl rfl rfl rfl rfl ?_
        cases hx
        exact hM (some (.int v632)) (some (.int v637)) rfl u8
      · refine ev_op (st' := [.int 0]) (pc' := 1069) hk (.iconst 0) 1 rfl rfl rfl ?_
        cases hx
        obtain rfl := hM
        exact ev_retZ false rfl hk rfl rfl
  · refine ev_op (st' := [.int 0]) (pc' := 1052) hk (.iconst 0) 1 rfl rfl rfl ?_
    cases hx
    obtain rfl := hM
    exact ev_retZ false rfl hk rfl rfl
set_option maxRecDepth 4000 in
theorem rw_law_j1073 {S : Nat} {xs : Nat → Int32} {I : zI} {C : zC} {Y : Nat → Int32} {Γ : Nat → zG} {D : zD} {O : Nat → Int32} {M : zM} {ou : Nat → Int64} {od : Nat → UInt64} {j : Nat} {a5 : Int32} {y : (Option Value ⊕ String) × px_H} {x : (zI × zC × (Nat → Int32) × (Nat → zG) × zD × (Nat → Int32) × zM × (Nat → Int64) × (Nat → UInt64) × Nat × Int32) ⊕ (Bool × zI × zC × (Nat → Int32) × (Nat → zG) × zD × (Nat → Int32) × zM × (Nat → Int64) × (Nat → UInt64) × Nat)}  (hx : fw_law_j1073 S xs I C Y Γ D O M ou od j a5 = some x) (hM : (Sum.elim (qw_law_28 S xs y) (fun X : Bool × zI × zC × (Nat → Int32) × (Nat → zG) × zD × (Nat → Int32) × zM × (Nat → Int64) × (Nat → UInt64) × Nat => y = (((.inl (some (.int (b2i X.1)))), (zH X.2.1 X.2.2.1 X.2.2.2.1 X.2.2.2.2.1 X.2.2.2.2.2.1 X.2.2.2.2.2.2.1 X.2.2.2.2.2.2.2.1 X.2.2.2.2.2.2.2.2.1 X.2.2.2.2.2.2.2.2.2.1 X.2.2.2.2.2.2.2.2.2.2)) : (Option Value ⊕ String) × px_H))) x) (u6 : Option Value) (u7 : Option Value) (hu7 : px_cz u7 = true) (u8 : Option Value) : Ev S xs 412 1073 [some (.retAddr 0), some (.ref 0), some (.ref 247), some (.ref 261), some (.ref 262), some (.int a5), u6, u7, u8, none] [] (zH I C Y Γ D O M ou od j) y := by
  have hk : pt_mt[412]? = some pt_r412 := rfl
  unfold fw_law_j1073 at hx
  refine ev_ls (L' := [some (.retAddr 0), some (.ref 0), some (.ref 247), some (.ref 261), some (.ref 262), some (.int a5), u6, u7, u8, none]) (st' := [.ref 0]) (pc' := 1074) hk (.aload_n 1) 1 rfl rfl rfl rfl ?_
  refine ev_ls (L' := [some (.retAddr 0), some (.ref 0), some (.ref 247), some (.ref 261), some (.ref 262), some (.int a5), u6, u7, u8, none]) (st' := [.retAddr 0, .ref 0]) (pc' := 1075) hk (.aload_n 0) 1 rfl rfl rfl rfl ?_
  refine ev_ls (L' := [some (.retAddr 0), some (.ref 0), some (.ref 247), some (.ref 261), some (.ref 262), some (.int a5), u6, u7, u8, none]) (st' := [.int a5, .retAddr 0, .ref 0]) (pc' := 1077) hk (.iload 5) 2 rfl rfl rfl rfl ?_
  refine ev_op (st' := [.int 1, .int a5, .retAddr 0, .ref 0]) (pc' := 1078) hk (.iconst 1) 1 rfl rfl rfl ?_
  refine ev_op (st' := [.int (a5 + 1), .retAddr 0, .ref 0]) (pc' := 1079) hk (.iadd) 1 rfl rfl rfl ?_
  obtain ⟨v639, hv639, hx⟩ := bnd_some hx
  refine ev_sal hv639 1080 hk rfl rfl ?_
  refine ev_ls (L' := [some (.retAddr 0), some (.ref 0), some (.ref 247), some (.ref 261), some (.ref 262), some (.int a5), u6, u7, u8, none]) (st' := [.retAddr 0, .int v639, .ref 0]) (pc' := 1081) hk (.aload_n 0) 1 rfl rfl rfl rfl ?_
  refine ev_ls (L' := [some (.retAddr 0), some (.ref 0), some (.ref 247), some (.ref 261), some (.ref 262), some (.int a5), u6, u7, u8, none]) (st' := [.int a5, .retAddr 0, .int v639, .ref 0]) (pc' := 1083) hk (.iload 5) 2 rfl rfl rfl rfl ?_
  refine ev_op (st' := [.int 2, .int a5, .retAddr 0, .int v639, .ref 0]) (pc' := 1084) hk (.iconst 2) 1 rfl rfl rfl ?_
  refine ev_op (st' := [.int (a5 + 2), .retAddr 0, .int v639, .ref 0]) (pc' := 1085) hk (.iadd) 1 rfl rfl rfl ?_
  obtain ⟨v640, hv640, hx⟩ := bnd_some hx
  refine ev_sal hv640 1086 hk rfl rfl ?_
  refine ev_ls (L' := [some (.retAddr 0), some (.ref 0), some (.ref 247), some (.ref 261), some (.ref 262), some (.int a5), u6, u7, u8, none]) (st' := [.ref 261, .int v640, .int v639, .ref 0]) (pc' := 1087) hk (.aload_n 3) 1 rfl rfl rfl rfl ?_
  obtain ⟨v643, ou641, j642, hc644, hx⟩ := bnd3_some hx
  refine ev_cs 381 4 [.int v643] 1090 hk rfl rfl (by decide) rfl rfl rfl (rw_hourAt hc644) rfl rfl rfl rfl ?_
  refine ev_ls (L' := [some (.retAddr 0), some (.ref 0), some (.ref 247), some (.ref 261), some (.ref 262), some (.int a5), some (.int v643), u7, u8, none]) (st' := []) (pc' := 1092) hk (.istore 6) 2 rfl rfl rfl rfl ?_
  refine ev_ls (L' := [some (.retAddr 0), some (.ref 0), some (.ref 247), some (.ref 261), some (.ref 262), some (.int a5), some (.int v643), u7, u8, none]) (st' := [.ref 247]) (pc' := 1093) hk (.aload_n 2) 1 rfl rfl rfl rfl ?_
  refine ev_ls (L' := [some (.retAddr 0), some (.ref 0), some (.ref 247), some (.ref 261), some (.ref 262), some (.int a5), some (.int v643), u7, u8, none]) (st' := [.retAddr 0, .ref 247]) (pc' := 1094) hk (.aload_n 0) 1 rfl rfl rfl rfl ?_
  refine ev_ls (L' := [some (.retAddr 0), some (.ref 0), some (.ref 247), some (.ref 261), some (.ref 262), some (.int a5), some (.int v643), u7, u8, none]) (st' := [.int a5, .retAddr 0, .ref 247]) (pc' := 1096) hk (.iload 5) 2 rfl rfl rfl rfl ?_
  refine ev_op (st' := [.int 1, .int a5, .retAddr 0, .ref 247]) (pc' := 1097) hk (.iconst 1) 1 rfl rfl rfl ?_
  refine ev_op (st' := [.int (a5 + 1), .retAddr 0, .ref 247]) (pc' := 1098) hk (.iadd) 1 rfl rfl rfl ?_
  obtain ⟨v645, hv645, hx⟩ := bnd_some hx
  refine ev_sal hv645 1099 hk rfl rfl ?_
  refine ev_ls (L' := [some (.retAddr 0), some (.ref 0), some (.ref 247), some (.ref 261), some (.ref 262), some (.int a5), some (.int v643), u7, u8, none]) (st' := [.retAddr 0, .int v645, .ref 247]) (pc' := 1100) hk (.aload_n 0) 1 rfl rfl rfl rfl ?_
  refine ev_ls (L' := [some (.retAddr 0), some (.ref 0), some (.ref 247), some (.ref 261), some (.ref 262), some (.int a5), some (.int v643), u7, u8, none]) (st' := [.int a5, .retAddr 0, .int v645, .ref 247]) (pc' := 1102) hk (.iload 5) 2 rfl rfl rfl rfl ?_
  refine ev_op (st' := [.int 2, .int a5, .retAddr 0, .int v645, .ref 247]) (pc' := 1103) hk (.iconst 2) 1 rfl rfl rfl ?_
  refine ev_op (st' := [.int (a5 + 2), .retAddr 0, .int v645, .ref 247]) (pc' := 1104) hk (.iadd) 1 rfl rfl rfl ?_
  obtain ⟨v646, hv646, hx⟩ := bnd_some hx
  refine ev_sal hv646 1105 hk rfl rfl ?_
  obtain ⟨v648, M647, hc649, hx⟩ := bnd2_some hx
  refine ev_cv 73 2 [.int v648] 1108 hk rfl rfl rfl rfl lk_model rfl rfl rfl (rM_hourAt hc649) rfl rfl rfl rfl ?_
  refine ev_ls (L' := [some (.retAddr 0), some (.ref 0), some (.ref 247), some (.ref 261), some (.ref 262), some (.int a5), some (.int v643), some (.int v648), u8, none]) (st' := []) (pc' := 1110) hk (.istore 7) 2 rfl rfl rfl rfl ?_
  refine ev_ls (L' := [some (.retAddr 0), some (.ref 0), some (.ref 247), some (.ref 261), some (.ref 262), some (.int a5), some (.int v643), some (.int v648), u8, none]) (st' := [.ref 247]) (pc' := 1111) hk (.aload_n 2) 1 rfl rfl rfl rfl ?_
  refine ev_cv 183 0 [.int (fM_thrown M647)] 1114 hk rfl rfl rfl rfl lk_model rfl rfl rfl (rM_thrown rfl) rfl rfl rfl rfl ?_
  refine ev_ls (L' := [some (.retAddr 0), some (.ref 0), some (.ref 247), some (.ref 261), some (.ref 262), some (.int a5), some (.int v643), some (.int v648), u8, none]) (st' := [.int v643, .int (fM_thrown M647)]) (pc' := 1116) hk (.iload 6) 2 rfl rfl rfl rfl ?_
  refine ev_d2 1121 1119 hk rfl rfl rfl rfl (px_ceq hx (fun hc hx => ?_) (fun hc hx => ?_))
  · refine ev_ls (L' := [some (.retAddr 0), some (.ref 0), some (.ref 247), some (.ref 261), some (.ref 262), some (.int a5), some (.int v643), some (.int v648), u8, none]) (st' := [.int v643]) (pc' := 1123) hk (.iload 6) 2 rfl rfl rfl rfl ?_
    refine ev_d1 1138 1126 hk rfl rfl rfl rfl (px_cne hx (fun hc hx => ?_) (fun hc hx => ?_))
    · refine ev_jp (pc' := 3189) (st' := []) hk (.goto 2051) 3 rfl rfl rfl rfl rfl ?_
      refine ev_ls (L' := [some (.retAddr 0), some (.ref 0), some (.ref 247), some (.ref 261), some (.ref 262), some (.int (a5 + 6)), some (.int v643), some (.int v648), u8, none]) (st' := []) (pc' := 3192) hk (.iinc 5 6) 3 rfl rfl rfl rfl ?_
      refine ev_jp (pc' := 28) (st' := []) hk (.goto (-3164)) 3 rfl rfl rfl rfl rfl ?_
      cases hx
      exact hM (some (.int v643)) (some (.int v648)) rfl u8
    · refine ev_ls (L' := [some (.retAddr 0), some (.ref 0), some (.ref 247), some (.ref 261), some (.ref 262), some (.int a5), some (.int v643), some (.int v648), u8, none]) (st' := [.ref 261]) (pc' := 1127) hk (.aload_n 3) 1 rfl rfl rfl rfl ?_
      refine ev_op (st' := [.int 0, .ref 261]) (pc' := 1128) hk (.iconst 0) 1 rfl rfl rfl ?_
      refine ev_lal (v := (ou641 0)) rfl 1129 hk rfl lk_ou rfl ?_
      refine ev_ls (L' := [some (.retAddr 0), some (.ref 0), some (.ref 247), some (.ref 261), some (.ref 262), some (.int a5), some (.int v643), some (.int v648), u8, none]) (st' := [.int v648, .long (ou641 0)]) (pc' := 1131) hk (.iload 7) 2 rfl rfl rfl rfl ?_
      refine ev_op (st' := [.long (Int32.toInt64 v648), .long (ou641 0)]) (pc' := 1132) hk (.i2l) 1 rfl rfl rfl ?_
      refine ev_op (st' := [.int (lg_cmp (ou641 0) (Int32.toInt64 v648))]) (pc' := 1133) hk (.lcmp) 1 rfl rfl rfl ?_
      refine ev_d1 1138 1136 hk rfl rfl rfl rfl (px_leq hx (fun hc hx => ?_) (fun hc hx => ?_))
      · refine ev_jp (pc' := 3189) (st' := []) hk (.goto 2051) 3 rfl rfl rfl rfl rfl ?_
        refine ev_ls (L' := [some (.retAddr 0), some (.ref 0), some (.ref 247), some (.ref 261), some (.ref 262), some (.int (a5 + 6)), some (.int v643), some (.int v648), u8, none]) (st' := []) (pc' := 3192) hk (.iinc 5 6) 3 rfl rfl rfl rfl ?_
        refine ev_jp (pc' := 28) (st' := []) hk (.goto (-3164)) 3 rfl rfl rfl rfl rfl ?_
        cases hx
        exact hM (some (.int v643)) (some (.int v648)) rfl u8
      · refine ev_op (st' := [.int 0]) (pc' := 1137) hk (.iconst 0) 1 rfl rfl rfl ?_
        cases hx
        obtain rfl := hM
        exact ev_retZ false rfl hk rfl rfl
  · refine ev_op (st' := [.int 0]) (pc' := 1120) hk (.iconst 0) 1 rfl rfl rfl ?_
    cases hx
    obtain rfl := hM
    exact ev_retZ false rfl hk rfl rfl
set_option maxRecDepth 4000 in
theorem rw_law_j1141 {S : Nat} {xs : Nat → Int32} {I : zI} {C : zC} {Y : Nat → Int32} {Γ : Nat → zG} {D : zD} {O : Nat → Int32} {M : zM} {ou : Nat → Int64} {od : Nat → UInt64} {j : Nat} {a5 : Int32} {y : (Option Value ⊕ String) × px_H} {x : (zI × zC × (Nat → Int32) × (Nat → zG) × zD × (Nat → Int32) × zM × (Nat → Int64) × (Nat → UInt64) × Nat × Int32) ⊕ (Bool × zI × zC × (Nat → Int32) × (Nat → zG) × zD × (Nat → Int32) × zM × (Nat → Int64) × (Nat → UInt64) × Nat)}  (hx : fw_law_j1141 S xs I C Y Γ D O M ou od j a5 = some x) (hM : (Sum.elim (qw_law_28 S xs y) (fun X : Bool × zI × zC × (Nat → Int32) × (Nat → zG) × zD × (Nat → Int32) × zM × (Nat → Int64) × (Nat → UInt64) × Nat => y = (((.inl (some (.int (b2i X.1)))), (zH X.2.1 X.2.2.1 X.2.2.2.1 X.2.2.2.2.1 X.2.2.2.2.2.1 X.2.2.2.2.2.2.1 X.2.2.2.2.2.2.2.1 X.2.2.2.2.2.2.2.2.1 X.2.2.2.2.2.2.2.2.2.1 X.2.2.2.2.2.2.2.2.2.2)) : (Option Value ⊕ String) × px_H))) x) (u6 : Option Value) (u7 : Option Value) (hu7 : px_cz u7 = true) (u8 : Option Value) : Ev S xs 412 1141 [some (.retAddr 0), some (.ref 0), some (.ref 247), some (.ref 261), some (.ref 262), some (.int a5), u6, u7, u8, none] [] (zH I C Y Γ D O M ou od j) y := by
  have hk : pt_mt[412]? = some pt_r412 := rfl
  unfold fw_law_j1141 at hx
  refine ev_ls (L' := [some (.retAddr 0), some (.ref 0), some (.ref 247), some (.ref 261), some (.ref 262), some (.int a5), u6, u7, u8, none]) (st' := [.ref 0]) (pc' := 1142) hk (.aload_n 1) 1 rfl rfl rfl rfl ?_
  refine ev_cv 305 0 [.int (fX_clock Γ)] 1145 hk rfl rfl rfl rfl lk_dh rfl rfl rfl (rX_clock rfl) rfl rfl rfl rfl ?_
  refine ev_ls (L' := [some (.retAddr 0), some (.ref 0), some (.ref 247), some (.ref 261), some (.ref 262), some (.int a5), u6, u7, u8, none]) (st' := [.ref 247, .int (fX_clock Γ)]) (pc' := 1146) hk (.aload_n 2) 1 rfl rfl rfl rfl ?_
  obtain ⟨v651, M650, hc652, hx⟩ := bnd2_some hx
  refine ev_cv 33 0 [.int v651, .int (fX_clock Γ)] 1149 hk rfl rfl rfl rfl lk_model rfl rfl rfl (rM_clock hc652) rfl rfl rfl rfl ?_
  refine ev_d2 3189 1152 hk rfl rfl rfl rfl (px_ceq hx (fun hc hx => ?_) (fun hc hx => ?_))
  · refine ev_ls (L' := [some (.retAddr 0), some (.ref 0), some (.ref 247), some (.ref 261), some (.ref 262), some (.int (a5 + 6)), u6, u7, u8, none]) (st' := []) (pc' := 3192) hk (.iinc 5 6) 3 rfl rfl rfl rfl ?_
    refine ev_jp (pc' := 28) (st' := []) hk (.goto (-3164)) 3 rfl rfl rfl rfl rfl ?_
    cases hx
    exact hM u6 u7 hu7 u8
  · refine ev_op (st' := [.int 0]) (pc' := 1153) hk (.iconst 0) 1 rfl rfl rfl ?_
    cases hx
    obtain rfl := hM
    exact ev_retZ false rfl hk rfl rfl

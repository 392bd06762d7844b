/-! THE ROWS of the methods: each function is what the pure machine does (8) -/
set_option maxRecDepth 2000 in
theorem rI_fail {S : Nat} {xs : Nat → Int32} {I : zI} {C : zC} {Y : Nat → Int32} {Γ : Nat → zG} {D : zD} {O : Nat → Int32} {M : zM} {ou : Nat → Int64} {od : Nat → UInt64} {j : Nat} {a1 : Int32} {X : Bool × zI}   (hx : fI_fail I a1 = some X) : Ev S xs 266 0 [some (.ref 1), some (.int a1)] [] (zH I C Y Γ D O M ou od j) (((.inl (some (.int (b2i X.1)))), (zH X.2 C Y Γ D O M ou od j)) : (Option Value ⊕ String) × px_H) := by
  generalize hM : (((.inl (some (.int (b2i X.1)))), (zH X.2 C Y Γ D O M ou od j)) : (Option Value ⊕ String) × px_H) = y
  replace hM := hM.symm
  have hk : pt_mt[266]? = some pt_r266 := rfl
  unfold fI_fail at hx
  refine ev_ls (L' := [some (.ref 1), some (.int a1)]) (st' := [.ref 1]) (pc' := 1) hk (.aload_n 0) 1 rfl rfl rfl rfl ?_
  refine ev_ls (L' := [some (.ref 1), some (.int a1)]) (st' := [.int a1, .ref 1]) (pc' := 2) hk (.iload_n 1) 1 rfl rfl rfl rfl ?_
  obtain ⟨I3, hI3, hx⟩ := bnd_some hx
  have hI3 := Option.some.inj hI3
  refine ev_pf 5 hk rfl rfl lk_input rfl rfl rfl (sf_3_8 hI3) rfl ?_
  refine ev_ls (L' := [some (.ref 1), some (.int a1)]) (st' := [.ref 1]) (pc' := 6) hk (.aload_n 0) 1 rfl rfl rfl rfl ?_
  refine ev_ls (L' := [some (.ref 1), some (.int a1)]) (st' := [.ref 1, .ref 1]) (pc' := 7) hk (.aload_n 0) 1 rfl rfl rfl rfl ?_
  refine ev_gf (.int (iF I3 3)) 10 hk rfl rfl lk_input rfl rfl ?_
  obtain ⟨I4, hI4, hx⟩ := bnd_some hx
  have hI4 := Option.some.inj hI4
  refine ev_pf 13 hk rfl rfl lk_input rfl rfl rfl (sf_3_9 hI4) rfl ?_
  refine ev_op (st' := [.int 0]) (pc' := 14) hk (.iconst 0) 1 rfl rfl rfl ?_
  cases hx
  obtain rfl := hM
  exact ev_retZ false rfl hk rfl rfl
set_option maxRecDepth 2000 in
theorem rI_expectSign {S : Nat} {xs : Nat → Int32} {I : zI} {C : zC} {Y : Nat → Int32} {Γ : Nat → zG} {D : zD} {O : Nat → Int32} {M : zM} {ou : Nat → Int64} {od : Nat → UInt64} {j : Nat} {a1 : Int32} {X : Bool × zI}   (hx : fI_expectSign I a1 = some X) : Ev S xs 264 0 [some (.ref 1), some (.int a1)] [] (zH I C Y Γ D O M ou od j) (((.inl (some (.int (b2i X.1)))), (zH X.2 C Y Γ D O M ou od j)) : (Option Value ⊕ String) × px_H) := by
  generalize hM : (((.inl (some (.int (b2i X.1)))), (zH X.2 C Y Γ D O M ou od j)) : (Option Value ⊕ String) × px_H) = y
  replace hM := hM.symm
  have hk : pt_mt[264]? = some pt_r264 := rfl
  unfold fI_expectSign at hx
  refine ev_ls (L' := [some (.ref 1), some (.int a1)]) (st' := [.ref 1]) (pc' := 1) hk (.aload_n 0) 1 rfl rfl rfl rfl ?_
  obtain ⟨I1, hc2, hx⟩ := bnd_some hx
  refine ev_cv 273 0 [] 4 hk rfl rfl rfl rfl lk_input rfl rfl rfl (rI_next hc2) rfl rfl rfl rfl ?_
  refine ev_ls (L' := [some (.ref 1), some (.int a1)]) (st' := [.ref 1]) (pc' := 5) hk (.aload_n 0) 1 rfl rfl rfl rfl ?_
  refine ev_ls (L' := [some (.ref 1), some (.int a1)]) (st' := [.int a1, .ref 1]) (pc' := 6) hk (.iload_n 1) 1 rfl rfl rfl rfl ?_
  refine ev_cv 272 1 [.int (b2i (fI_isSign I1 a1))] 9 hk rfl rfl rfl rfl lk_input rfl rfl rfl (rI_isSign rfl) rfl rfl rfl rfl ?_
  refine ev_d1 20 12 hk rfl rfl rfl rfl (px_bne hx (fun hc hx => ?_) (fun hc hx => ?_))
  · refine ev_op (st' := [.int 1]) (pc' := 21) hk (.iconst 1) 1 rfl rfl rfl ?_
    refine ev_jp (pc' := 25) (st' := [.int 1]) hk (.goto 4) 3 rfl rfl rfl rfl rfl ?_
    cases hx
    obtain rfl := hM
    exact ev_retZ true rfl hk rfl rfl
  · refine ev_ls (L' := [some (.ref 1), some (.int a1)]) (st' := [.ref 1]) (pc' := 13) hk (.aload_n 0) 1 rfl rfl rfl rfl ?_
    refine ev_op (st' := [.int 1, .ref 1]) (pc' := 14) hk (.iconst 1) 1 rfl rfl rfl ?_
    obtain ⟨v4, I3, hc5, hx⟩ := bnd2_some hx
    refine ev_cv 266 1 [.int (b2i v4)] 17 hk rfl rfl rfl rfl lk_input rfl rfl rfl (rI_fail hc5) rfl rfl rfl rfl ?_
    refine ev_d1 24 20 hk rfl rfl rfl rfl (px_beq hx (fun hc hx => ?_) (fun hc hx => ?_))
    · refine ev_op (st' := [.int 0]) (pc' := 25) hk (.iconst 0) 1 rfl rfl rfl ?_
      cases hx
      obtain rfl := hM
      exact ev_retZ false rfl hk rfl rfl
    · refine ev_op (st' := [.int 1]) (pc' := 21) hk (.iconst 1) 1 rfl rfl rfl ?_
      refine ev_jp (pc' := 25) (st' := [.int 1]) hk (.goto 4) 3 rfl rfl rfl rfl rfl ?_
      cases hx
      obtain rfl := hM
      exact ev_retZ true rfl hk rfl rfl
def qS_closeRepeat_27 (S : Nat) (xs : Nat → Int32) (I : zI) (Y : Nat → Int32) (Γ : Nat → zG) (D : zD) (O : Nat → Int32) (M : zM) (ou : Nat → Int64) (od : Nat → UInt64) (j : Nat) (a2 : Int32) (y : (Option Value ⊕ String) × px_H) (s : zC × Int32) : Prop := ∀ (u4 : Option Value) (hu4 : px_cz u4 = true), Ev S xs 284 27 [some (.ref 3), some (.ref 1), some (.int a2), some (.int s.2), u4] [] (zH I s.1 Y Γ D O M ou od j) y
set_option maxRecDepth 4000 in
theorem rS_closeRepeat_j97 {S : Nat} {xs : Nat → Int32} {I : zI} {C : zC} {Y : Nat → Int32} {Γ : Nat → zG} {D : zD} {O : Nat → Int32} {M : zM} {ou : Nat → Int64} {od : Nat → UInt64} {j : Nat}  {y : (Option Value ⊕ String) × px_H} {x : Bool × zI × zC}  (hx : fS_closeRepeat_j97 I C = some x) (hM : (fun X : Bool × zI × zC => y = (((.inl (some (.int (b2i X.1)))), (zH X.2.1 X.2.2 Y Γ D O M ou od j)) : (Option Value ⊕ String) × px_H)) x) (u0 : Option Value) (hu0 : px_cz u0 = true) (u2 : Option Value) (hu2 : px_cz u2 = true) (u3 : Option Value) (hu3 : px_cz u3 = true) (u4 : Option Value) (hu4 : px_cz u4 = true) : Ev S xs 284 97 [u0, some (.ref 1), u2, u3, u4] [] (zH I C Y Γ D O M ou od j) y := by
  have hk : pt_mt[284]? = some pt_r284 := rfl
  unfold fS_closeRepeat_j97 at hx
  refine ev_ls (L' := [u0, some (.ref 1), u2, u3, u4]) (st' := [.ref 1]) (pc' := 98) hk (.aload_n 1) 1 rfl rfl rfl rfl ?_
  refine ev_op (st' := [.int 59, .ref 1]) (pc' := 100) hk (.bipush 59) 2 rfl rfl rfl ?_
  obtain ⟨v14, I13, hc15, hx⟩ := bnd2_some hx
  refine ev_cv 264 1 [.int (b2i v14)] 103 hk rfl rfl rfl rfl lk_input rfl rfl rfl (rI_expectSign hc15) rfl rfl rfl rfl ?_
  cases hx
  obtain rfl := hM
  exact ev_retZ _ rfl hk rfl rfl
set_option maxRecDepth 4000 in
theorem rS_closeRepeat_b27 {S : Nat} {xs : Nat → Int32} {I : zI} {Y : Nat → Int32} {Γ : Nat → zG} {D : zD} {O : Nat → Int32} {M : zM} {ou : Nat → Int64} {od : Nat → UInt64} {j : Nat} {a2 : Int32} {y : (Option Value ⊕ String) × px_H} {s : zC × Int32} {x : (zC × Int32) ⊕ (Bool × zI × zC)}  (hx : fS_closeRepeat_b27 I a2 s.1 s.2 = some x) (hM : (Sum.elim (qS_closeRepeat_27 S xs I Y Γ D O M ou od j a2 y) (fun X : Bool × zI × zC => y = (((.inl (some (.int (b2i X.1)))), (zH X.2.1 X.2.2 Y Γ D O M ou od j)) : (Option Value ⊕ String) × px_H))) x) : qS_closeRepeat_27 S xs I Y Γ D O M ou od j a2 y s := by
  obtain ⟨C, a3⟩ := s
  intro u4 hu4
  have hk : pt_mt[284]? = some pt_r284 := rfl
  unfold fS_closeRepeat_b27 at hx
  try dsimp only at hx
  refine ev_ls (L' := [some (.ref 3), some (.ref 1), some (.int a2), some (.int a3), u4]) (st' := [.int a3]) (pc' := 28) hk (.iload_n 3) 1 rfl rfl rfl rfl ?_
  refine ev_ls (L' := [some (.ref 3), some (.ref 1), some (.int a2), some (.int a3), u4]) (st' := [.int a2, .int a3]) (pc' := 29) hk (.iload_n 2) 1 rfl rfl rfl rfl ?_
  refine ev_ls (L' := [some (.ref 3), some (.ref 1), some (.int a2), some (.int a3), u4]) (st' := [.ref 3, .int a2, .int a3]) (pc' := 30) hk (.aload_n 0) 1 rfl rfl rfl rfl ?_
  refine ev_gf (.ref 9) 33 hk rfl rfl lk_script rfl rfl ?_
  refine ev_ls (L' := [some (.ref 3), some (.ref 1), some (.int a2), some (.int a3), u4]) (st' := [.ref 3, .ref 9, .int a2, .int a3]) (pc' := 34) hk (.aload_n 0) 1 rfl rfl rfl rfl ?_
  refine ev_gf (.int (sF C 6)) 37 hk rfl rfl lk_script rfl rfl ?_
  obtain ⟨v16, hv16, hx⟩ := bnd_some hx
  refine ev_ial hv16 38 hk rfl lk_sa8 rfl ?_
  refine ev_op (st' := [.int (a2 * v16), .int a3]) (pc' := 39) hk (.imul) 1 rfl rfl rfl ?_
  refine ev_d2 97 42 hk rfl rfl rfl rfl (px_cge hx (fun hc hx => ?_) (fun hc hx => ?_))
  · obtain ⟨X, hx2, hX⟩ := Option.map_eq_some_iff.mp hx
    clear hx; subst hX; have hx := hx2; clear hx2
    exact rS_closeRepeat_j97 hx hM (some (.ref 3)) rfl (some (.int a2)) rfl (some (.int a3)) rfl u4 hu4
  · refine ev_ls (L' := [some (.ref 3), some (.ref 1), some (.int a2), some (.int a3), u4]) (st' := [.ref 3]) (pc' := 43) hk (.aload_n 0) 1 rfl rfl rfl rfl ?_
    refine ev_gf (.int (sF C 1)) 46 hk rfl rfl lk_script rfl rfl ?_
    refine ev_op (st' := [.int 40, .int (sF C 1)]) (pc' := 48) hk (.bipush 40) 2 rfl rfl rfl ?_
    refine ev_d2 97 51 hk rfl rfl rfl rfl (px_cge hx (fun hc hx => ?_) (fun hc hx => ?_))
    · obtain ⟨X, hx2, hX⟩ := Option.map_eq_some_iff.mp hx
      clear hx; subst hX; have hx := hx2; clear hx2
      exact rS_closeRepeat_j97 hx hM (some (.ref 3)) rfl (some (.int a2)) rfl (some (.int a3)) rfl u4 hu4
    · refine ev_ls (L' := [some (.ref 3), some (.ref 1), some (.int a2), some (.int a3), u4]) (st' := [.ref 3]) (pc' := 52) hk (.aload_n 0) 1 rfl rfl rfl rfl ?_
      refine ev_gf (.int (sF C 1)) 55 hk rfl rfl lk_script rfl rfl ?_
      refine ev_ls (L' := [some (.ref 3), some (.ref 1), some (.int a2), some (.int a3), u4]) (st' := [.int a2, .int (sF C 1)]) (pc' := 56) hk (.iload_n 2) 1 rfl rfl rfl rfl ?_
      refine ev_op (st' := [.int ((sF C 1) - a2)]) (pc' := 57) hk (.isub) 1 rfl rfl rfl ?_
      refine ev_ls (L' := [some (.ref 3), some (.ref 1), some (.int a2), some (.int a3), some (.int ((sF C 1) - a2))]) (st' := []) (pc' := 59) hk (.istore 4) 2 rfl rfl rfl rfl ?_
      refine ev_ls (L' := [some (.ref 3), some (.ref 1), some (.int a2), some (.int a3), some (.int ((sF C 1) - a2))]) (st' := [.ref 3]) (pc' := 60) hk (.aload_n 0) 1 rfl rfl rfl rfl ?_
      refine ev_ls (L' := [some (.ref 3), some (.ref 1), some (.int a2), some (.int a3), some (.int ((sF C 1) - a2))]) (st' := [.ref 3, .ref 3]) (pc' := 61) hk (.aload_n 0) 1 rfl rfl rfl rfl ?_
      refine ev_gf (.ref 4) 64 hk rfl rfl lk_script rfl rfl ?_
      refine ev_ls (L' := [some (.ref 3), some (.ref 1), some (.int a2), some (.int a3), some (.int ((sF C 1) - a2))]) (st' := [.int ((sF C 1) - a2), .ref 4, .ref 3]) (pc' := 66) hk (.iload 4) 2 rfl rfl rfl rfl ?_
      obtain ⟨v17, hv17, hx⟩ := bnd_some hx
      refine ev_ial hv17 67 hk rfl lk_sa2 rfl ?_
      refine ev_ls (L' := [some (.ref 3), some (.ref 1), some (.int a2), some (.int a3), some (.int ((sF C 1) - a2))]) (st' := [.ref 3, .int v17, .ref 3]) (pc' := 68) hk (.aload_n 0) 1 rfl rfl rfl rfl ?_
      refine ev_gf (.ref 5) 71 hk rfl rfl lk_script rfl rfl ?_
      refine ev_ls (L' := [some (.ref 3), some (.ref 1), some (.int a2), some (.int a3), some (.int ((sF C 1) - a2))]) (st' := [.int ((sF C 1) - a2), .ref 5, .int v17, .ref 3]) (pc' := 73) hk (.iload 4) 2 rfl rfl rfl rfl ?_
      obtain ⟨v18, hv18, hx⟩ := bnd_some hx
      refine ev_ial hv18 74 hk rfl lk_sa3 rfl ?_
      refine ev_ls (L' := [some (.ref 3), some (.ref 1), some (.int a2), some (.int a3), some (.int ((sF C 1) - a2))]) (st' := [.ref 3, .int v18, .int v17, .ref 3]) (pc' := 75) hk (.aload_n 0) 1 rfl rfl rfl rfl ?_
      refine ev_gf (.ref 6) 78 hk rfl rfl lk_script rfl rfl ?_
      refine ev_ls (L' := [some (.ref 3), some (.ref 1), some (.int a2), some (.int a3), some (.int ((sF C 1) - a2))]) (st' := [.int ((sF C 1) - a2), .ref 6, .int v18, .int v17, .ref 3]) (pc' := 80) hk (.iload 4) 2 rfl rfl rfl rfl ?_
      obtain ⟨v19, hv19, hx⟩ := bnd_some hx
      refine ev_ial hv19 81 hk rfl lk_sa4 rfl ?_
      refine ev_ls (L' := [some (.ref 3), some (.ref 1), some (.int a2), some (.int a3), some (.int ((sF C 1) - a2))]) (st' := [.ref 3, .int v19, .int v18, .int v17, .ref 3]) (pc' := 82) hk (.aload_n 0) 1 rfl rfl rfl rfl ?_
      refine ev_gf (.ref 7) 85 hk rfl rfl lk_script rfl rfl ?_
      refine ev_ls (L' := [some (.ref 3), some (.ref 1), some (.int a2), some (.int a3), some (.int ((sF C 1) - a2))]) (st' := [.int ((sF C 1) - a2), .ref 7, .int v19, .int v18, .int v17, .ref 3]) (pc' := 87) hk (.iload 4) 2 rfl rfl rfl rfl ?_
      obtain ⟨v20, hv20, hx⟩ := bnd_some hx
      refine ev_ial hv20 88 hk rfl lk_sa5 rfl ?_
      obtain ⟨C21, hc22, hx⟩ := bnd_some hx
      refine ev_cv 289 4 [] 91 hk rfl rfl rfl rfl lk_script rfl rfl rfl (rS_plan hc22) rfl rfl rfl rfl ?_
      refine ev_ls (L' := [some (.ref 3), some (.ref 1), some (.int a2), some (.int (a3 + 1)), some (.int ((sF C 1) - a2))]) (st' := []) (pc' := 94) hk (.iinc 3 1) 3 rfl rfl rfl rfl ?_
      refine ev_jp (pc' := 27) (st' := []) hk (.goto (-67)) 3 rfl rfl rfl rfl rfl ?_
      cases hx
      exact hM (some (.int ((sF C 1) - a2))) rfl
set_option maxRecDepth 2000 in
theorem rS_closeRepeat {S : Nat} {xs : Nat → Int32} {I : zI} {C : zC} {Y : Nat → Int32} {Γ : Nat → zG} {D : zD} {O : Nat → Int32} {M : zM} {ou : Nat → Int64} {od : Nat → UInt64} {j : Nat}  {X : Bool × zI × zC}   (hx : fS_closeRepeat I C = some X) : Ev S xs 284 0 [some (.ref 3), some (.ref 1), none, none, none] [] (zH I C Y Γ D O M ou od j) (((.inl (some (.int (b2i X.1)))), (zH X.2.1 X.2.2 Y Γ D O M ou od j)) : (Option Value ⊕ String) × px_H) := by
  generalize hM : (((.inl (some (.int (b2i X.1)))), (zH X.2.1 X.2.2 Y Γ D O M ou od j)) : (Option Value ⊕ String) × px_H) = y
  replace hM := hM.symm
  have hk : pt_mt[284]? = some pt_r284 := rfl
  unfold fS_closeRepeat at hx
  refine ev_ls (L' := [some (.ref 3), some (.ref 1), none, none, none]) (st' := [.ref 3]) (pc' := 1) hk (.aload_n 0) 1 rfl rfl rfl rfl ?_
  refine ev_op (st' := [.ref 3, .ref 3]) (pc' := 2) hk (.dup) 1 rfl rfl rfl ?_
  refine ev_gf (.int (sF C 6)) 5 hk rfl rfl lk_script rfl rfl ?_
  refine ev_op (st' := [.int 1, .int (sF C 6), .ref 3]) (pc' := 6) hk (.iconst 1) 1 rfl rfl rfl ?_
  refine ev_op (st' := [.int ((sF C 6) - 1), .ref 3]) (pc' := 7) hk (.isub) 1 rfl rfl rfl ?_
  obtain ⟨C23, hC23, hx⟩ := bnd_some hx
  have hC23 := Option.some.inj hC23
  refine ev_pf 10 hk rfl rfl lk_script rfl rfl rfl (sf_5_6 hC23) rfl ?_
  refine ev_ls (L' := [some (.ref 3), some (.ref 1), none, none, none]) (st' := [.ref 3]) (pc' := 11) hk (.aload_n 0) 1 rfl rfl rfl rfl ?_
  refine ev_gf (.int (sF C23 1)) 14 hk rfl rfl lk_script rfl rfl ?_
  refine ev_ls (L' := [some (.ref 3), some (.ref 1), none, none, none]) (st' := [.ref 3, .int (sF C23 1)]) (pc' := 15) hk (.aload_n 0) 1 rfl rfl rfl rfl ?_
  refine ev_gf (.ref 8) 18 hk rfl rfl lk_script rfl rfl ?_
  refine ev_ls (L' := [some (.ref 3), some (.ref 1), none, none, none]) (st' := [.ref 3, .ref 8, .int (sF C23 1)]) (pc' := 19) hk (.aload_n 0) 1 rfl rfl rfl rfl ?_
  refine ev_gf (.int (sF C23 6)) 22 hk rfl rfl lk_script rfl rfl ?_
  obtain ⟨v24, hv24, hx⟩ := bnd_some hx
  refine ev_ial hv24 23 hk rfl lk_sa7 rfl ?_
  refine ev_op (st' := [.int ((sF C23 1) - v24)]) (pc' := 24) hk (.isub) 1 rfl rfl rfl ?_
  refine ev_ls (L' := [some (.ref 3), some (.ref 1), some (.int ((sF C23 1) - v24)), none, none]) (st' := []) (pc' := 25) hk (.istore_n 2) 1 rfl rfl rfl rfl ?_
  refine ev_ls (L' := [some (.ref 3), some (.ref 1), some (.int ((sF C23 1) - v24)), none, none]) (st' := [.int ((sF C23 1) - v24)]) (pc' := 26) hk (.iload_n 2) 1 rfl rfl rfl rfl ?_
  refine ev_ls (L' := [some (.ref 3), some (.ref 1), some (.int ((sF C23 1) - v24)), some (.int ((sF C23 1) - v24)), none]) (st' := []) (pc' := 27) hk (.istore_n 3) 1 rfl rfl rfl rfl ?_
  exact ev_iter (qS_closeRepeat_27 S xs I Y Γ D O M ou od j ((sF C23 1) - v24) _) (fun X : Bool × zI × zC => y = (((.inl (some (.int (b2i X.1)))), (zH X.2.1 X.2.2 Y Γ D O M ou od j)) : (Option Value ⊕ String) × px_H)) (fun s x hb hM => rS_closeRepeat_b27 hb hM) fu _ _ hx hM none rfl
set_option maxRecDepth 4000 in
theorem rS_kindOf {S : Nat} {xs : Nat → Int32} {I : zI} {C : zC} {Y : Nat → Int32} {Γ : Nat → zG} {D : zD} {O : Nat → Int32} {M : zM} {ou : Nat → Int64} {od : Nat → UInt64} {j : Nat} {a0 : Int64} {X : Int32}   (hx : fS_kindOf a0 = X) : Ev S xs 287 0 [some (.long a0), none] [] (zH I C Y Γ D O M ou od j) (((.inl (some (.int X))), (zH I C Y Γ D O M ou od j)) : (Option Value ⊕ String) × px_H) := by
  generalize hM : (((.inl (some (.int X))), (zH I C Y Γ D O M ou od j)) : (Option Value ⊕ String) × px_H) = y
  replace hM := hM.symm
  have hk : pt_mt[287]? = some pt_r287 := rfl
  unfold fS_kindOf at hx
  refine ev_ls (L' := [some (.long a0), none]) (st' := [.long a0]) (pc' := 1) hk (.lload_n 0) 1 rfl rfl rfl rfl ?_
  refine ev_ldJ 6841709 4 hk rfl rfl rfl ?_
  refine ev_op (st' := [.int (lg_cmp a0 6841709)]) (pc' := 5) hk (.lcmp) 1 rfl rfl rfl ?_
  refine ev_d1 10 8 hk rfl rfl rfl rfl (px_lne hx (fun hc hx => ?_) (fun hc hx => ?_))
  · refine ev_ls (L' := [some (.long a0), none]) (st' := [.long a0]) (pc' := 11) hk (.lload_n 0) 1 rfl rfl rfl rfl ?_
    refine ev_ldJ 7562615 14 hk rfl rfl rfl ?_
    refine ev_op (st' := [.int (lg_cmp a0 7562615)]) (pc' := 15) hk (.lcmp) 1 rfl rfl rfl ?_
    refine ev_d1 20 18 hk rfl rfl rfl rfl (px_lne hx (fun hc hx => ?_) (fun hc hx => ?_))
    · refine ev_ls (L' := [some (.long a0), none]) (st' := [.long a0]) (pc' := 21) hk (.lload_n 0) 1 rfl rfl rfl rfl ?_
      refine ev_ldJ 1937007984 24 hk rfl rfl rfl ?_
      refine ev_op (st' := [.int (lg_cmp a0 1937007984)]) (pc' := 25) hk (.lcmp) 1 rfl rfl rfl ?_
      refine ev_d1 30 28 hk rfl rfl rfl rfl (px_lne hx (fun hc hx => ?_) (fun hc hx => ?_))
      · refine ev_ls (L' := [some (.long a0), none]) (st' := [.long a0]) (pc' := 31) hk (.lload_n 0) 1 rfl rfl rfl rfl ?_
        refine ev_ldJ 2002873451 34 hk rfl rfl rfl ?_
        refine ev_op (st' := [.int (lg_cmp a0 2002873451)]) (pc' := 35) hk (.lcmp) 1 rfl rfl rfl ?_
        refine ev_d1 40 38 hk rfl rfl rfl rfl (px_lne hx (fun hc hx => ?_) (fun hc hx => ?_))
        · refine ev_ls (L' := [some (.long a0), none]) (st' := [.long a0]) (pc' := 41) hk (.lload_n 0) 1 rfl rfl rfl rfl ?_
          refine ev_ldJ 7498096 44 hk rfl rfl rfl ?_
          refine ev_op (st' := [.int (lg_cmp a0 7498096)]) (pc' := 45) hk (.lcmp) 1 rfl rfl rfl ?_
          refine ev_d1 50 48 hk rfl rfl rfl rfl (px_lne hx (fun hc hx => ?_) (fun hc hx => ?_))
          · refine ev_ls (L' := [some (.long a0), none]) (st' := [.long a0]) (pc' := 51) hk (.lload_n 0) 1 rfl rfl rfl rfl ?_
            refine ev_ldJ 1885434739 54 hk rfl rfl rfl ?_
            refine ev_op (st' := [.int (lg_cmp a0 1885434739)]) (pc' := 55) hk (.lcmp) 1 rfl rfl rfl ?_
            refine ev_d1 61 58 hk rfl rfl rfl rfl (px_lne hx (fun hc hx => ?_) (fun hc hx => ?_))
            · refine ev_ls (L' := [some (.long a0), none]) (st' := [.long a0]) (pc' := 62) hk (.lload_n 0) 1 rfl rfl rfl rfl ?_
              refine ev_ldJ 125780002955636 65 hk rfl rfl rfl ?_
              refine ev_op (st' := [.int (lg_cmp a0 125780002955636)]) (pc' := 66) hk (.lcmp) 1 rfl rfl rfl ?_
              refine ev_d1 74 69 hk rfl rfl rfl rfl (px_lne hx (fun hc hx => ?_) (fun hc hx => ?_))
              · refine ev_op (st' := [.int 0]) (pc' := 75) hk (.iconst 0) 1 rfl rfl rfl ?_
                cases hx
                obtain rfl := hM
                exact ev_retI hk rfl rfl
              · refine ev_op (st' := [.int 7]) (pc' := 71) hk (.bipush 7) 2 rfl rfl rfl ?_
                refine ev_jp (pc' := 75) (st' := [.int 7]) hk (.goto 4) 3 rfl rfl rfl rfl rfl ?_
                cases hx
                obtain rfl := hM
                exact ev_retI hk rfl rfl
            · refine ev_op (st' := [.int 6]) (pc' := 60) hk (.bipush 6) 2 rfl rfl rfl ?_
              cases hx
              obtain rfl := hM
              exact ev_retI hk rfl rfl
          · refine ev_op (st' := [.int 5]) (pc' := 49) hk (.iconst 5) 1 rfl rfl rfl ?_
            cases hx
            obtain rfl := hM
            exact ev_retI hk rfl rfl
        · refine ev_op (st' := [.int 4]) (pc' := 39) hk (.iconst 4) 1 rfl rfl rfl ?_
          cases hx
          obtain rfl := hM
          exact ev_retI hk rfl rfl
      · refine ev_op (st' := [.int 3]) (pc' := 29) hk (.iconst 3) 1 rfl rfl rfl ?_
        cases hx
        obtain rfl := hM
        exact ev_retI hk rfl rfl
    · refine ev_op (st' := [.int 2]) (pc' := 19) hk (.iconst 2) 1 rfl rfl rfl ?_
      cases hx
      obtain rfl := hM
      exact ev_retI hk rfl rfl
  · refine ev_op (st' := [.int 1]) (pc' := 9) hk (.iconst 1) 1 rfl rfl rfl ?_
    cases hx
    obtain rfl := hM
    exact ev_retI hk rfl rfl
set_option maxRecDepth 4000 in
theorem rI_expectNumber_j36 {S : Nat} {xs : Nat → Int32} {I : zI} {C : zC} {Y : Nat → Int32} {Γ : Nat → zG} {D : zD} {O : Nat → Int32} {M : zM} {ou : Nat → Int64} {od : Nat → UInt64} {j : Nat}  {y : (Option Value ⊕ String) × px_H} {x : Int32 × zI}  (hx : fI_expectNumber_j36 I = some x) (hM : (fun X : Int32 × zI => y = (((.inl (some (.int X.1))), (zH X.2 C Y Γ D O M ou od j)) : (Option Value ⊕ String) × px_H)) x) (u1 : Option Value) (hu1 : px_cz u1 = true) (u2 : Option Value) (hu2 : px_cz u2 = true) : Ev S xs 263 36 [some (.ref 1), u1, u2] [] (zH I C Y Γ D O M ou od j) y := by
  have hk : pt_mt[263]? = some pt_r263 := rfl
  unfold fI_expectNumber_j36 at hx
  refine ev_ls (L' := [some (.ref 1), u1, u2]) (st' := [.ref 1]) (pc' := 37) hk (.aload_n 0) 1 rfl rfl rfl rfl ?_
  refine ev_op (st' := [.int 2, .ref 1]) (pc' := 38) hk (.iconst 2) 1 rfl rfl rfl ?_
  obtain ⟨v2, I1, hc3, hx⟩ := bnd2_some hx
  refine ev_cv 266 1 [.int (b2i v2)] 41 hk rfl rfl rfl rfl lk_input rfl rfl rfl (rI_fail hc3) rfl rfl rfl rfl ?_
  refine ev_op (st' := []) (pc' := 42) hk (.pop) 1 rfl rfl rfl ?_
  refine ev_op (st' := [.int (-1)]) (pc' := 43) hk (.iconst (-1)) 1 rfl rfl rfl ?_
  cases hx
  obtain rfl := hM
  exact ev_retI hk rfl rfl
set_option maxRecDepth 2000 in
theorem rI_expectNumber {S : Nat} {xs : Nat → Int32} {I : zI} {C : zC} {Y : Nat → Int32} {Γ : Nat → zG} {D : zD} {O : Nat → Int32} {M : zM} {ou : Nat → Int64} {od : Nat → UInt64} {j : Nat} {a1 : Int32} {a2 : Int32} {X : Int32 × zI}   (hx : fI_expectNumber I a1 a2 = some X) : Ev S xs 263 0 [some (.ref 1), some (.int a1), some (.int a2)] [] (zH I C Y Γ D O M ou od j) (((.inl (some (.int X.1))), (zH X.2 C Y Γ D O M ou od j)) : (Option Value ⊕ String) × px_H) := by
  generalize hM : (((.inl (some (.int X.1))), (zH X.2 C Y Γ D O M ou od j)) : (Option Value ⊕ String) × px_H) = y
  replace hM := hM.symm
  have hk : pt_mt[263]? = some pt_r263 := rfl
  unfold fI_expectNumber at hx
  refine ev_ls (L' := [some (.ref 1), some (.int a1), some (.int a2)]) (st' := [.ref 1]) (pc' := 1) hk (.aload_n 0) 1 rfl rfl rfl rfl ?_
  obtain ⟨I4, hc5, hx⟩ := bnd_some hx
  refine ev_cv 273 0 [] 4 hk rfl rfl rfl rfl lk_input rfl rfl rfl (rI_next hc5) rfl rfl rfl rfl ?_
  refine ev_ls (L' := [some (.ref 1), some (.int a1), some (.int a2)]) (st' := [.ref 1]) (pc' := 5) hk (.aload_n 0) 1 rfl rfl rfl rfl ?_
  refine ev_gf (.int (iF I4 4)) 8 hk rfl rfl lk_input rfl rfl ?_
  refine ev_op (st' := [.int 2, .int (iF I4 4)]) (pc' := 9) hk (.iconst 2) 1 rfl rfl rfl ?_
  refine ev_d2 20 12 hk rfl rfl rfl rfl (px_ceq hx (fun hc hx => ?_) (fun hc hx => ?_))
  · refine ev_ls (L' := [some (.ref 1), some (.int a1), some (.int a2)]) (st' := [.ref 1]) (pc' := 21) hk (.aload_n 0) 1 rfl rfl rfl rfl ?_
    refine ev_gf (.int (iF I4 6)) 24 hk rfl rfl lk_input rfl rfl ?_
    refine ev_ls (L' := [some (.ref 1), some (.int a1), some (.int a2)]) (st' := [.int a1, .int (iF I4 6)]) (pc' := 25) hk (.iload_n 1) 1 rfl rfl rfl rfl ?_
    refine ev_d2 36 28 hk rfl rfl rfl rfl (px_clt hx (fun hc hx => ?_) (fun hc hx => ?_))
    · exact rI_expectNumber_j36 hx hM (some (.int a1)) rfl (some (.int a2)) rfl
    · refine ev_ls (L' := [some (.ref 1), some (.int a1), some (.int a2)]) (st' := [.ref 1]) (pc' := 29) hk (.aload_n 0) 1 rfl rfl rfl rfl ?_
      refine ev_gf (.int (iF I4 6)) 32 hk rfl rfl lk_input rfl rfl ?_
      refine ev_ls (L' := [some (.ref 1), some (.int a1), some (.int a2)]) (st' := [.int a2, .int (iF I4 6)]) (pc' := 33) hk (.iload_n 2) 1 rfl rfl rfl rfl ?_
      refine ev_d2 44 36 hk rfl rfl rfl rfl (px_cle hx (fun hc hx => ?_) (fun hc hx => ?_))
      · refine ev_ls (L' := [some (.ref 1), some (.int a1), some (.int a2)]) (st' := [.ref 1]) (pc' := 45) hk (.aload_n 0) 1 rfl rfl rfl rfl ?_
        refine ev_gf (.int (iF I4 6)) 48 hk rfl rfl lk_input rfl rfl ?_
        cases hx
        obtain rfl := hM
        exact ev_retI hk rfl rfl
      · exact rI_expectNumber_j36 hx hM (some (.int a1)) rfl (some (.int a2)) rfl
  · refine ev_ls (L' := [some (.ref 1), some (.int a1), some (.int a2)]) (st' := [.ref 1]) (pc' := 13) hk (.aload_n 0) 1 rfl rfl rfl rfl ?_
    refine ev_op (st' := [.int 1, .ref 1]) (pc' := 14) hk (.iconst 1) 1 rfl rfl rfl ?_
    obtain ⟨v7, I6, hc8, hx⟩ := bnd2_some hx
    refine ev_cv 266 1 [.int (b2i v7)] 17 hk rfl rfl rfl rfl lk_input rfl rfl rfl (rI_fail hc8) rfl rfl rfl rfl ?_
    refine ev_op (st' := []) (pc' := 18) hk (.pop) 1 rfl rfl rfl ?_
    refine ev_op (st' := [.int (-1)]) (pc' := 19) hk (.iconst (-1)) 1 rfl rfl rfl ?_
    cases hx
    obtain rfl := hM
    exact ev_retI hk rfl rfl
set_option maxRecDepth 2000 in
theorem rS_openRepeat {S : Nat} {xs : Nat → Int32} {I : zI} {C : zC} {Y : Nat → Int32} {Γ : Nat → zG} {D : zD} {O : Nat → Int32} {M : zM} {ou : Nat → Int64} {od : Nat → UInt64} {j : Nat}  {X : Bool × zI × zC}   (hx : fS_openRepeat I C = some X) : Ev S xs 288 0 [some (.ref 3), some (.ref 1), none] [] (zH I C Y Γ D O M ou od j) (((.inl (some (.int (b2i X.1)))), (zH X.2.1 X.2.2 Y Γ D O M ou od j)) : (Option Value ⊕ String) × px_H) := by
  generalize hM : (((.inl (some (.int (b2i X.1)))), (zH X.2.1 X.2.2 Y Γ D O M ou od j)) : (Option Value ⊕ String) × px_H) = y
  replace hM := hM.symm
  have hk : pt_mt[288]? = some pt_r288 := rfl
  unfold fS_openRepeat at hx
  refine ev_ls (L' := [some (.ref 3), some (.ref 1), none]) (st' := [.ref 1]) (pc' := 1) hk (.aload_n 1) 1 rfl rfl rfl rfl ?_
  refine ev_op (st' := [.int 1, .ref 1]) (pc' := 2) hk (.iconst 1) 1 rfl rfl rfl ?_
  refine ev_op (st' := [.int 20, .int 1, .ref 1]) (pc' := 4) hk (.bipush 20) 2 rfl rfl rfl ?_
  obtain ⟨v7, I6, hc8, hx⟩ := bnd2_some hx
  refine ev_cv 263 2 [.int v7] 7 hk rfl rfl rfl rfl lk_input rfl rfl rfl (rI_expectNumber hc8) rfl rfl rfl rfl ?_
  refine ev_ls (L' := [some (.ref 3), some (.ref 1), some (.int v7)]) (st' := []) (pc' := 8) hk (.istore_n 2) 1 rfl rfl rfl rfl ?_
  refine ev_ls (L' := [some (.ref 3), some (.ref 1), some (.int v7)]) (st' := [.int v7]) (pc' := 9) hk (.iload_n 2) 1 rfl rfl rfl rfl ?_
  refine ev_op (st' := [.int (-1), .int v7]) (pc' := 10) hk (.iconst (-1)) 1 rfl rfl rfl ?_
  refine ev_d2 15 13 hk rfl rfl rfl rfl (px_cne hx (fun hc hx => ?_) (fun hc hx => ?_))
  · refine ev_ls (L' := [some (.ref 3), some (.ref 1), some (.int v7)]) (st' := [.ref 3]) (pc' := 16) hk (.aload_n 0) 1 rfl rfl rfl rfl ?_
    refine ev_gf (.ref 8) 19 hk rfl rfl lk_script rfl rfl ?_
    refine ev_ls (L' := [some (.ref 3), some (.ref 1), some (.int v7)]) (st' := [.ref 3, .ref 8]) (pc' := 20) hk (.aload_n 0) 1 rfl rfl rfl rfl ?_
    refine ev_gf (.int (sF C 6)) 23 hk rfl rfl lk_script rfl rfl ?_
    refine ev_ls (L' := [some (.ref 3), some (.ref 1), some (.int v7)]) (st' := [.ref 3, .int (sF C 6), .ref 8]) (pc' := 24) hk (.aload_n 0) 1 rfl rfl rfl rfl ?_
    refine ev_gf (.int (sF C 1)) 27 hk rfl rfl lk_script rfl rfl ?_
    obtain ⟨A9, hA9, hx⟩ := bnd_some hx
    obtain ⟨C10, hC10, hx⟩ := bnd_some hx
    have hC10 := Option.some.inj hC10
    refine ev_ias hA9 28 hk rfl lk_sa7 (sa_s7 hC10) rfl ?_
    refine ev_ls (L' := [some (.ref 3), some (.ref 1), some (.int v7)]) (st' := [.ref 3]) (pc' := 29) hk (.aload_n 0) 1 rfl rfl rfl rfl ?_
    refine ev_gf (.ref 9) 32 hk rfl rfl lk_script rfl rfl ?_
    refine ev_ls (L' := [some (.ref 3), some (.ref 1), some (.int v7)]) (st' := [.ref 3, .ref 9]) (pc' := 33) hk (.aload_n 0) 1 rfl rfl rfl rfl ?_
    refine ev_gf (.int (sF C10 6)) 36 hk rfl rfl lk_script rfl rfl ?_
    refine ev_ls (L' := [some (.ref 3), some (.ref 1), some (.int v7)]) (st' := [.int v7, .int (sF C10 6), .ref 9]) (pc' := 37) hk (.iload_n 2) 1 rfl rfl rfl rfl ?_
    obtain ⟨A11, hA11, hx⟩ := bnd_some hx
    obtain ⟨C12, hC12, hx⟩ := bnd_some hx
    have hC12 := Option.some.inj hC12
    refine ev_ias hA11 38 hk rfl lk_sa8 (sa_s8 hC12) rfl ?_
    refine ev_ls (L' := [some (.ref 3), some (.ref 1), some (.int v7)]) (st' := [.ref 3]) (pc' := 39) hk (.aload_n 0) 1 rfl rfl rfl rfl ?_
    refine ev_op (st' := [.ref 3, .ref 3]) (pc' := 40) hk (.dup) 1 rfl rfl rfl ?_
    refine ev_gf (.int (sF C12 6)) 43 hk rfl rfl lk_script rfl rfl ?_
    refine ev_op (st' := [.int 1, .int (sF C12 6), .ref 3]) (pc' := 44) hk (.iconst 1) 1 rfl rfl rfl ?_
    refine ev_op (st' := [.int ((sF C12 6) + 1), .ref 3]) (pc' := 45) hk (.iadd) 1 rfl rfl rfl ?_
    obtain ⟨C13, hC13, hx⟩ := bnd_some hx
    have hC13 := Option.some.inj hC13
    refine ev_pf 48 hk rfl rfl lk_script rfl rfl rfl (sf_5_6 hC13) rfl ?_
    refine ev_ls (L' := [some (.ref 3), some (.ref 1), some (.int v7)]) (st' := [.ref 1]) (pc' := 49) hk (.aload_n 1) 1 rfl rfl rfl rfl ?_
    refine ev_op (st' := [.int 40, .ref 1]) (pc' := 51) hk (.bipush 40) 2 rfl rfl rfl ?_
    obtain ⟨v15, I14, hc16, hx⟩ := bnd2_some hx
    refine ev_cv 264 1 [.int (b2i v15)] 54 hk rfl rfl rfl rfl lk_input rfl rfl rfl (rI_expectSign hc16) rfl rfl rfl rfl ?_
    cases hx
    obtain rfl := hM
    exact ev_retZ _ rfl hk rfl rfl
  · refine ev_op (st' := [.int 0]) (pc' := 14) hk (.iconst 0) 1 rfl rfl rfl ?_
    cases hx
    obtain rfl := hM
    exact ev_retZ false rfl hk rfl rfl
set_option maxRecDepth 4000 in
theorem rS_readNumbers_j78 {S : Nat} {xs : Nat → Int32} {I : zI} {C : zC} {Y : Nat → Int32} {Γ : Nat → zG} {D : zD} {O : Nat → Int32} {M : zM} {ou : Nat → Int64} {od : Nat → UInt64} {j : Nat} {a2 : Int32} {a3 : Int32} {a5 : Int32} {a0t : Int32} {y : (Option Value ⊕ String) × px_H} {x : Bool × zI × zC}  (hx : fS_readNumbers_j78 I C a2 a3 a5 a0t = some x) (hM : (fun X : Bool × zI × zC => y = (((.inl (some (.int (b2i X.1)))), (zH X.2.1 X.2.2 Y Γ D O M ou od j)) : (Option Value ⊕ String) × px_H)) x) (u4 : Option Value) (hu4 : px_cz u4 = true) : Ev S xs 292 78 [some (.ref 3), some (.ref 1), some (.int a2), some (.int a3), u4, some (.int a5), none] [.int a0t] (zH I C Y Γ D O M ou od j) y := by
  have hk : pt_mt[292]? = some pt_r292 := rfl
  unfold fS_readNumbers_j78 at hx
  refine ev_ls (L' := [some (.ref 3), some (.ref 1), some (.int a2), some (.int a3), u4, some (.int a5), some (.int a0t)]) (st' := []) (pc' := 80) hk (.istore 6) 2 rfl rfl rfl rfl ?_
  refine ev_ls (L' := [some (.ref 3), some (.ref 1), some (.int a2), some (.int a3), u4, some (.int a5), some (.int a0t)]) (st' := [.int a0t]) (pc' := 82) hk (.iload 6) 2 rfl rfl rfl rfl ?_
  refine ev_op (st' := [.int (-1), .int a0t]) (pc' := 83) hk (.iconst (-1)) 1 rfl rfl rfl ?_
  refine ev_d2 88 86 hk rfl rfl rfl rfl (px_cne hx (fun hc hx => ?_) (fun hc hx => ?_))
  · refine ev_ls (L' := [some (.ref 3), some (.ref 1), some (.int a2), some (.int a3), u4, some (.int a5), some (.int a0t)]) (st' := [.ref 3]) (pc' := 89) hk (.aload_n 0) 1 rfl rfl rfl rfl ?_
    refine ev_ls (L' := [some (.ref 3), some (.ref 1), some (.int a2), some (.int a3), u4, some (.int a5), some (.int a0t)]) (st' := [.int a2, .ref 3]) (pc' := 90) hk (.iload_n 2) 1 rfl rfl rfl rfl ?_
    refine ev_ls (L' := [some (.ref 3), some (.ref 1), some (.int a2), some (.int a3), u4, some (.int a5), some (.int a0t)]) (st' := [.int a3, .int a2, .ref 3]) (pc' := 91) hk (.iload_n 3) 1 rfl rfl rfl rfl ?_
    refine ev_ls (L' := [some (.ref 3), some (.ref 1), some (.int a2), some (.int a3), u4, some (.int a5), some (.int a0t)]) (st' := [.int a5, .int a3, .int a2, .ref 3]) (pc' := 93) hk (.iload 5) 2 rfl rfl rfl rfl ?_
    refine ev_ls (L' := [some (.ref 3), some (.ref 1), some (.int a2), some (.int a3), u4, some (.int a5), some (.int a0t)]) (st' := [.int a0t, .int a5, .int a3, .int a2, .ref 3]) (pc' := 95) hk (.iload 6) 2 rfl rfl rfl rfl ?_
    obtain ⟨C7, hc8, hx⟩ := bnd_some hx
    refine ev_cv 289 4 [] 98 hk rfl rfl rfl rfl lk_script rfl rfl rfl (rS_plan hc8) rfl rfl rfl rfl ?_
    refine ev_ls (L' := [some (.ref 3), some (.ref 1), some (.int a2), some (.int a3), u4, some (.int a5), some (.int a0t)]) (st' := [.ref 1]) (pc' := 99) hk (.aload_n 1) 1 rfl rfl rfl rfl ?_
    refine ev_op (st' := [.int 59, .ref 1]) (pc' := 101) hk (.bipush 59) 2 rfl rfl rfl ?_
    obtain ⟨v10, I9, hc11, hx⟩ := bnd2_some hx
    refine ev_cv 264 1 [.int (b2i v10)] 104 hk rfl rfl rfl rfl lk_input rfl rfl rfl (rI_expectSign hc11) rfl rfl rfl rfl ?_
    cases hx
    obtain rfl := hM
    exact ev_retZ _ rfl hk rfl rfl
  · refine ev_op (st' := [.int 0]) (pc' := 87) hk (.iconst 0) 1 rfl rfl rfl ?_
    cases hx
    obtain rfl := hM
    exact ev_retZ false rfl hk rfl rfl
set_option maxRecDepth 4000 in
theorem rS_readNumbers_j51 {S : Nat} {xs : Nat → Int32} {I : zI} {C : zC} {Y : Nat → Int32} {Γ : Nat → zG} {D : zD} {O : Nat → Int32} {M : zM} {ou : Nat → Int64} {od : Nat → UInt64} {j : Nat} {a2 : Int32} {a3 : Int32} {a0t : Int32} {y : (Option Value ⊕ String) × px_H} {x : Bool × zI × zC}  (hx : fS_readNumbers_j51 I C a2 a3 a0t = some x) (hM : (fun X : Bool × zI × zC => y = (((.inl (some (.int (b2i X.1)))), (zH X.2.1 X.2.2 Y Γ D O M ou od j)) : (Option Value ⊕ String) × px_H)) x) (u4 : Option Value) (hu4 : px_cz u4 = true) : Ev S xs 292 51 [some (.ref 3), some (.ref 1), some (.int a2), some (.int a3), u4, none, none] [.int a0t] (zH I C Y Γ D O M ou od j) y := by
  have hk : pt_mt[292]? = some pt_r292 := rfl
  unfold fS_readNumbers_j51 at hx
  refine ev_ls (L' := [some (.ref 3), some (.ref 1), some (.int a2), some (.int a3), u4, some (.int a0t), none]) (st' := []) (pc' := 53) hk (.istore 5) 2 rfl rfl (congrArg (Option.map (fun L => (L, []))) (px_st1_v (i := 4) (L := [some (.ref 3), some (.ref 1), some (.int a2), some (.int a3), u4, none, none]) hu4 rfl rfl rfl)) rfl ?_
  refine ev_ls (L' := [some (.ref 3), some (.ref 1), some (.int a2), some (.int a3), u4, some (.int a0t), none]) (st' := [.int a0t]) (pc' := 55) hk (.iload 5) 2 rfl rfl rfl rfl ?_
  refine ev_op (st' := [.int (-1), .int a0t]) (pc' := 56) hk (.iconst (-1)) 1 rfl rfl rfl ?_
  refine ev_d2 61 59 hk rfl rfl rfl rfl (px_cne hx (fun hc hx => ?_) (fun hc hx => ?_))
  · refine ev_ls (L' := [some (.ref 3), some (.ref 1), some (.int a2), some (.int a3), u4, some (.int a0t), none]) (st' := [.int a2]) (pc' := 62) hk (.iload_n 2) 1 rfl rfl rfl rfl ?_
    refine ev_op (st' := [.int 4, .int a2]) (pc' := 63) hk (.iconst 4) 1 rfl rfl rfl ?_
    refine ev_d2 77 66 hk rfl rfl rfl rfl (px_cne hx (fun hc hx => ?_) (fun hc hx => ?_))
    · refine ev_op (st' := [.int 0]) (pc' := 78) hk (.iconst 0) 1 rfl rfl rfl ?_
      exact rS_readNumbers_j78 hx hM u4 hu4
    · refine ev_ls (L' := [some (.ref 3), some (.ref 1), some (.int a2), some (.int a3), u4, some (.int a0t), none]) (st' := [.ref 1]) (pc' := 67) hk (.aload_n 1) 1 rfl rfl rfl rfl ?_
      refine ev_op (st' := [.int 0, .ref 1]) (pc' := 68) hk (.iconst 0) 1 rfl rfl rfl ?_
      refine ev_op (st' := [.int 9999, .int 0, .ref 1]) (pc' := 71) hk (.sipush 9999) 3 rfl rfl rfl ?_
      obtain ⟨v5, I4, hc6, hx⟩ := bnd2_some hx
      refine ev_cv 263 2 [.int v5] 74 hk rfl rfl rfl rfl lk_input rfl rfl rfl (rI_expectNumber hc6) rfl rfl rfl rfl ?_
      refine ev_jp (pc' := 78) (st' := [.int v5]) hk (.goto 4) 3 rfl rfl rfl rfl rfl ?_
      exact rS_readNumbers_j78 hx hM u4 hu4
  · refine ev_op (st' := [.int 0]) (pc' := 60) hk (.iconst 0) 1 rfl rfl rfl ?_
    cases hx
    obtain rfl := hM
    exact ev_retZ false rfl hk rfl rfl
set_option maxRecDepth 4000 in
theorem rS_readNumbers_j32 {S : Nat} {xs : Nat → Int32} {I : zI} {C : zC} {Y : Nat → Int32} {Γ : Nat → zG} {D : zD} {O : Nat → Int32} {M : zM} {ou : Nat → Int64} {od : Nat → UInt64} {j : Nat} {a2 : Int32} {a3 : Int32} {a0t : Bool} {y : (Option Value ⊕ String) × px_H} {x : Bool × zI × zC}  (hx : fS_readNumbers_j32 I C a2 a3 a0t = some x) (hM : (fun X : Bool × zI × zC => y = (((.inl (some (.int (b2i X.1)))), (zH X.2.1 X.2.2 Y Γ D O M ou od j)) : (Option Value ⊕ String) × px_H)) x)  : Ev S xs 292 32 [some (.ref 3), some (.ref 1), some (.int a2), some (.int a3), none, none, none] [.int (b2i a0t)] (zH I C Y Γ D O M ou od j) y := by
  have hk : pt_mt[292]? = some pt_r292 := rfl
  unfold fS_readNumbers_j32 at hx
  refine ev_ls (L' := [some (.ref 3), some (.ref 1), some (.int a2), some (.int a3), some (.int (b2i a0t)), none, none]) (st' := []) (pc' := 34) hk (.istore 4) 2 rfl rfl rfl rfl ?_
  refine ev_ls (L' := [some (.ref 3), some (.ref 1), some (.int a2), some (.int a3), some (.int (b2i a0t)), none, none]) (st' := [.int (b2i a0t)]) (pc' := 36) hk (.iload 4) 2 rfl rfl rfl rfl ?_
  refine ev_d1 43 39 hk rfl rfl rfl rfl (px_beq hx (fun hc hx => ?_) (fun hc hx => ?_))
  · refine ev_ls (L' := [some (.ref 3), some (.ref 1), some (.int a2), some (.int a3), some (.int (b2i a0t)), none, none]) (st' := [.ref 1]) (pc' := 44) hk (.aload_n 1) 1 rfl rfl rfl rfl ?_
    refine ev_op (st' := [.int 0, .ref 1]) (pc' := 45) hk (.iconst 0) 1 rfl rfl rfl ?_
    refine ev_op (st' := [.int 9999, .int 0, .ref 1]) (pc' := 48) hk (.sipush 9999) 3 rfl rfl rfl ?_
    obtain ⟨v2, I1, hc3, hx⟩ := bnd2_some hx
    refine ev_cv 263 2 [.int v2] 51 hk rfl rfl rfl rfl lk_input rfl rfl rfl (rI_expectNumber hc3) rfl rfl rfl rfl ?_
    exact rS_readNumbers_j51 hx hM (some (.int (b2i a0t))) rfl
  · refine ev_op (st' := [.int 0]) (pc' := 40) hk (.iconst 0) 1 rfl rfl rfl ?_
    refine ev_jp (pc' := 51) (st' := [.int 0]) hk (.goto 11) 3 rfl rfl rfl rfl rfl ?_
    exact rS_readNumbers_j51 hx hM (some (.int (b2i a0t))) rfl
set_option maxRecDepth 4000 in
theorem rS_readNumbers_j27 {S : Nat} {xs : Nat → Int32} {I : zI} {C : zC} {Y : Nat → Int32} {Γ : Nat → zG} {D : zD} {O : Nat → Int32} {M : zM} {ou : Nat → Int64} {od : Nat → UInt64} {j : Nat} {a2 : Int32} {a3 : Int32} {y : (Option Value ⊕ String) × px_H} {x : Bool × zI × zC}  (hx : fS_readNumbers_j27 I C a2 a3 = some x) (hM : (fun X : Bool × zI × zC => y = (((.inl (some (.int (b2i X.1)))), (zH X.2.1 X.2.2 Y Γ D O M ou od j)) : (Option Value ⊕ String) × px_H)) x)  : Ev S xs 292 27 [some (.ref 3), some (.ref 1), some (.int a2), some (.int a3), none, none, none] [] (zH I C Y Γ D O M ou od j) y := by
  have hk : pt_mt[292]? = some pt_r292 := rfl
  unfold fS_readNumbers_j27 at hx
  refine ev_op (st' := [.int 1]) (pc' := 28) hk (.iconst 1) 1 rfl rfl rfl ?_
  refine ev_jp (pc' := 32) (st' := [.int 1]) hk (.goto 4) 3 rfl rfl rfl rfl rfl ?_
  exact rS_readNumbers_j32 hx hM 
set_option maxRecDepth 2000 in
theorem rS_readNumbers {S : Nat} {xs : Nat → Int32} {I : zI} {C : zC} {Y : Nat → Int32} {Γ : Nat → zG} {D : zD} {O : Nat → Int32} {M : zM} {ou : Nat → Int64} {od : Nat → UInt64} {j : Nat} {a2 : Int32} {X : Bool × zI × zC}   (hx : fS_readNumbers I C a2 = some X) : Ev S xs 292 0 [some (.ref 3), some (.ref 1), some (.int a2), none, none, none, none] [] (zH I C Y Γ D O M ou od j) (((.inl (some (.int (b2i X.1)))), (zH X.2.1 X.2.2 Y Γ D O M ou od j)) : (Option Value ⊕ String) × px_H) := by
  generalize hM : (((.inl (some (.int (b2i X.1)))), (zH X.2.1 X.2.2 Y Γ D O M ou od j)) : (Option Value ⊕ String) × px_H) = y
  replace hM := hM.symm
  have hk : pt_mt[292]? = some pt_r292 := rfl
  unfold fS_readNumbers at hx
  refine ev_ls (L' := [some (.ref 3), some (.ref 1), some (.int a2), none, none, none, none]) (st' := [.ref 1]) (pc' := 1) hk (.aload_n 1) 1 rfl rfl rfl rfl ?_
  refine ev_op (st' := [.int 0, .ref 1]) (pc' := 2) hk (.iconst 0) 1 rfl rfl rfl ?_
  refine ev_op (st' := [.int 9999, .int 0, .ref 1]) (pc' := 5) hk (.sipush 9999) 3 rfl rfl rfl ?_
  obtain ⟨v13, I12, hc14, hx⟩ := bnd2_some hx
  refine ev_cv 263 2 [.int v13] 8 hk rfl rfl rfl rfl lk_input rfl rfl rfl (rI_expectNumber hc14) rfl rfl rfl rfl ?_
  refine ev_ls (L' := [some (.ref 3), some (.ref 1), some (.int a2), some (.int v13), none, none, none]) (st' := []) (pc' := 9) hk (.istore_n 3) 1 rfl rfl rfl rfl ?_
  refine ev_ls (L' := [some (.ref 3), some (.ref 1), some (.int a2), some (.int v13), none, none, none]) (st' := [.int v13]) (pc' := 10) hk (.iload_n 3) 1 rfl rfl rfl rfl ?_
  refine ev_op (st' := [.int (-1), .int v13]) (pc' := 11) hk (.iconst (-1)) 1 rfl rfl rfl ?_
  refine ev_d2 16 14 hk rfl rfl rfl rfl (px_cne hx (fun hc hx => ?_) (fun hc hx => ?_))
  · refine ev_ls (L' := [some (.ref 3), some (.ref 1), some (.int a2), some (.int v13), none, none, none]) (st' := [.int a2]) (pc' := 17) hk (.iload_n 2) 1 rfl rfl rfl rfl ?_
    refine ev_op (st' := [.int 5, .int a2]) (pc' := 18) hk (.iconst 5) 1 rfl rfl rfl ?_
    refine ev_d2 27 21 hk rfl rfl rfl rfl (px_ceq hx (fun hc hx => ?_) (fun hc hx => ?_))
    · exact rS_readNumbers_j27 hx hM 
    · refine ev_ls (L' := [some (.ref 3), some (.ref 1), some (.int a2), some (.int v13), none, none, none]) (st' := [.int a2]) (pc' := 22) hk (.iload_n 2) 1 rfl rfl rfl rfl ?_
      refine ev_op (st' := [.int 6, .int a2]) (pc' := 24) hk (.bipush 6) 2 rfl rfl rfl ?_
      refine ev_d2 31 27 hk rfl rfl rfl rfl (px_cne hx (fun hc hx => ?_) (fun hc hx => ?_))
      · refine ev_op (st' := [.int 0]) (pc' := 32) hk (.iconst 0) 1 rfl rfl rfl ?_
        exact rS_readNumbers_j32 hx hM 
      · exact rS_readNumbers_j27 hx hM 
  · refine ev_op (st' := [.int 0]) (pc' := 15) hk (.iconst 0) 1 rfl rfl rfl ?_
    cases hx
    obtain rfl := hM
    exact ev_retZ false rfl hk rfl rfl
set_option maxRecDepth 4000 in
theorem rS_readCommand_j38 {S : Nat} {xs : Nat → Int32} {I : zI} {C : zC} {Y : Nat → Int32} {Γ : Nat → zG} {D : zD} {O : Nat → Int32} {M : zM} {ou : Nat → Int64} {od : Nat → UInt64} {j : Nat} {a2 : Int32} {y : (Option Value ⊕ String) × px_H} {x : Bool × zI × zC}  (hx : fS_readCommand_j38 I C a2 = some x) (hM : (fun X : Bool × zI × zC => y = (((.inl (some (.int (b2i X.1)))), (zH X.2.1 X.2.2 Y Γ D O M ou od j)) : (Option Value ⊕ String) × px_H)) x)  : Ev S xs 291 38 [some (.ref 3), some (.ref 1), some (.int a2)] [] (zH I C Y Γ D O M ou od j) y := by
  have hk : pt_mt[291]? = some pt_r291 := rfl
  unfold fS_readCommand_j38 at hx
  refine ev_ls (L' := [some (.ref 3), some (.ref 1), some (.int a2)]) (st' := [.ref 3]) (pc' := 39) hk (.aload_n 0) 1 rfl rfl rfl rfl ?_
  refine ev_gf (.int (sF C 0)) 42 hk rfl rfl lk_script rfl rfl ?_
  refine ev_op (st' := [.int 30, .int (sF C 0)]) (pc' := 44) hk (.bipush 30) 2 rfl rfl rfl ?_
  refine ev_d2 53 47 hk rfl rfl rfl rfl (px_clt hx (fun hc hx => ?_) (fun hc hx => ?_))
  · refine ev_ls (L' := [some (.ref 3), some (.ref 1), some (.int a2)]) (st' := [.ref 3]) (pc' := 54) hk (.aload_n 0) 1 rfl rfl rfl rfl ?_
    refine ev_op (st' := [.ref 3, .ref 3]) (pc' := 55) hk (.dup) 1 rfl rfl rfl ?_
    refine ev_gf (.int (sF C 0)) 58 hk rfl rfl lk_script rfl rfl ?_
    refine ev_op (st' := [.int 1, .int (sF C 0), .ref 3]) (pc' := 59) hk (.iconst 1) 1 rfl rfl rfl ?_
    refine ev_op (st' := [.int ((sF C 0) + 1), .ref 3]) (pc' := 60) hk (.iadd) 1 rfl rfl rfl ?_
    obtain ⟨C2, hC2, hx⟩ := bnd_some hx
    have hC2 := Option.some.inj hC2
    refine ev_pf 63 hk rfl rfl lk_script rfl rfl rfl (sf_5_0 hC2) rfl ?_
    refine ev_ls (L' := [some (.ref 3), some (.ref 1), some (.int a2)]) (st' := [.int a2]) (pc' := 64) hk (.iload_n 2) 1 rfl rfl rfl rfl ?_
    refine ev_op (st' := [.int 7, .int a2]) (pc' := 66) hk (.bipush 7) 2 rfl rfl rfl ?_
    refine ev_d2 77 69 hk rfl rfl rfl rfl (px_cne hx (fun hc hx => ?_) (fun hc hx => ?_))
    · refine ev_ls (L' := [some (.ref 3), some (.ref 1), some (.int a2)]) (st' := [.ref 3]) (pc' := 78) hk (.aload_n 0) 1 rfl rfl rfl rfl ?_
      refine ev_ls (L' := [some (.ref 3), some (.ref 1), some (.int a2)]) (st' := [.ref 1, .ref 3]) (pc' := 79) hk (.aload_n 1) 1 rfl rfl rfl rfl ?_
      refine ev_ls (L' := [some (.ref 3), some (.ref 1), some (.int a2)]) (st' := [.int a2, .ref 1, .ref 3]) (pc' := 80) hk (.iload_n 2) 1 rfl rfl rfl rfl ?_
      obtain ⟨v5, I3, C4, hc6, hx⟩ := bnd3_some hx
      refine ev_cv 292 2 [.int (b2i v5)] 83 hk rfl rfl rfl rfl lk_script rfl rfl rfl (rS_readNumbers hc6) rfl rfl rfl rfl ?_
      cases hx
      obtain rfl := hM
      exact ev_retZ _ rfl hk rfl rfl
    · refine ev_ls (L' := [some (.ref 3), some (.ref 1), some (.int a2)]) (st' := [.ref 3]) (pc' := 70) hk (.aload_n 0) 1 rfl rfl rfl rfl ?_
      refine ev_ls (L' := [some (.ref 3), some (.ref 1), some (.int a2)]) (st' := [.ref 1, .ref 3]) (pc' := 71) hk (.aload_n 1) 1 rfl rfl rfl rfl ?_
      obtain ⟨v9, I7, C8, hc10, hx⟩ := bnd3_some hx
      refine ev_cv 288 1 [.int (b2i v9)] 74 hk rfl rfl rfl rfl lk_script rfl rfl rfl (rS_openRepeat hc10) rfl rfl rfl rfl ?_
      refine ev_jp (pc' := 83) (st' := [.int (b2i v9)]) hk (.goto 9) 3 rfl rfl rfl rfl rfl ?_
      cases hx
      obtain rfl := hM
      exact ev_retZ _ rfl hk rfl rfl
  · refine ev_ls (L' := [some (.ref 3), some (.ref 1), some (.int a2)]) (st' := [.ref 1]) (pc' := 48) hk (.aload_n 1) 1 rfl rfl rfl rfl ?_
    refine ev_op (st' := [.int 5, .ref 1]) (pc' := 49) hk (.iconst 5) 1 rfl rfl rfl ?_
    obtain ⟨v12, I11, hc13, hx⟩ := bnd2_some hx
    refine ev_cv 266 1 [.int (b2i v12)] 52 hk rfl rfl rfl rfl lk_input rfl rfl rfl (rI_fail hc13) rfl rfl rfl rfl ?_
    cases hx
    obtain rfl := hM
    exact ev_retZ _ rfl hk rfl rfl
set_option maxRecDepth 2000 in
theorem rS_readCommand {S : Nat} {xs : Nat → Int32} {I : zI} {C : zC} {Y : Nat → Int32} {Γ : Nat → zG} {D : zD} {O : Nat → Int32} {M : zM} {ou : Nat → Int64} {od : Nat → UInt64} {j : Nat}  {X : Bool × zI × zC}   (hx : fS_readCommand I C = some X) : Ev S xs 291 0 [some (.ref 3), some (.ref 1), none] [] (zH I C Y Γ D O M ou od j) (((.inl (some (.int (b2i X.1)))), (zH X.2.1 X.2.2 Y Γ D O M ou od j)) : (Option Value ⊕ String) × px_H) := by
  generalize hM : (((.inl (some (.int (b2i X.1)))), (zH X.2.1 X.2.2 Y Γ D O M ou od j)) : (Option Value ⊕ String) × px_H) = y
  replace hM := hM.symm
  have hk : pt_mt[291]? = some pt_r291 := rfl
  unfold fS_readCommand at hx
  refine ev_ls (L' := [some (.ref 3), some (.ref 1), none]) (st' := [.ref 1]) (pc' := 1) hk (.aload_n 1) 1 rfl rfl rfl rfl ?_
  refine ev_gf (.long (iN I)) 4 hk rfl rfl lk_input rfl rfl ?_
  refine ev_cs 287 1 [.int (fS_kindOf (iN I))] 7 hk rfl rfl (by decide) rfl rfl rfl (rS_kindOf rfl) rfl rfl rfl rfl ?_
  refine ev_ls (L' := [some (.ref 3), some (.ref 1), some (.int (fS_kindOf (iN I)))]) (st' := []) (pc' := 8) hk (.istore_n 2) 1 rfl rfl rfl rfl ?_
  refine ev_ls (L' := [some (.ref 3), some (.ref 1), some (.int (fS_kindOf (iN I)))]) (st' := [.int (fS_kindOf (iN I))]) (pc' := 9) hk (.iload_n 2) 1 rfl rfl rfl rfl ?_
  refine ev_d1 18 12 hk rfl rfl rfl rfl (px_cne hx (fun hc hx => ?_) (fun hc hx => ?_))
  · refine ev_ls (L' := [some (.ref 3), some (.ref 1), some (.int (fS_kindOf (iN I)))]) (st' := [.int (fS_kindOf (iN I))]) (pc' := 19) hk (.iload_n 2) 1 rfl rfl rfl rfl ?_
    refine ev_op (st' := [.int 7, .int (fS_kindOf (iN I))]) (pc' := 21) hk (.bipush 7) 2 rfl rfl rfl ?_
    refine ev_d2 38 24 hk rfl rfl rfl rfl (px_cne hx (fun hc hx => ?_) (fun hc hx => ?_))
    · exact rS_readCommand_j38 hx hM 
    · refine ev_ls (L' := [some (.ref 3), some (.ref 1), some (.int (fS_kindOf (iN I)))]) (st' := [.ref 3]) (pc' := 25) hk (.aload_n 0) 1 rfl rfl rfl rfl ?_
      refine ev_gf (.int (sF C 6)) 28 hk rfl rfl lk_script rfl rfl ?_
      refine ev_op (st' := [.int 2, .int (sF C 6)]) (pc' := 29) hk (.iconst 2) 1 rfl rfl rfl ?_
      refine ev_d2 38 32 hk rfl rfl rfl rfl (px_clt hx (fun hc hx => ?_) (fun hc hx => ?_))
      · exact rS_readCommand_j38 hx hM 
      · refine ev_ls (L' := [some (.ref 3), some (.ref 1), some (.int (fS_kindOf (iN I)))]) (st' := [.ref 1]) (pc' := 33) hk (.aload_n 1) 1 rfl rfl rfl rfl ?_
        refine ev_op (st' := [.int 3, .ref 1]) (pc' := 34) hk (.iconst 3) 1 rfl rfl rfl ?_
        obtain ⟨v15, I14, hc16, hx⟩ := bnd2_some hx
        refine ev_cv 266 1 [.int (b2i v15)] 37 hk rfl rfl rfl rfl lk_input rfl rfl rfl (rI_fail hc16) rfl rfl rfl rfl ?_
        cases hx
        obtain rfl := hM
        exact ev_retZ _ rfl hk rfl rfl
  · refine ev_ls (L' := [some (.ref 3), some (.ref 1), some (.int (fS_kindOf (iN I)))]) (st' := [.ref 1]) (pc' := 13) hk (.aload_n 1) 1 rfl rfl rfl rfl ?_
    refine ev_op (st' := [.int 1, .ref 1]) (pc' := 14) hk (.iconst 1) 1 rfl rfl rfl ?_
    obtain ⟨v18, I17, hc19, hx⟩ := bnd2_some hx
    refine ev_cv 266 1 [.int (b2i v18)] 17 hk rfl rfl rfl rfl lk_input rfl rfl rfl (rI_fail hc19) rfl rfl rfl rfl ?_
    cases hx
    obtain rfl := hM
    exact ev_retZ _ rfl hk rfl rfl
def qS_read_21 (S : Nat) (xs : Nat → Int32) (Y : Nat → Int32) (Γ : Nat → zG) (D : zD) (O : Nat → Int32) (M : zM) (ou : Nat → Int64) (od : Nat → UInt64) (j : Nat) (y : (Option Value ⊕ String) × px_H) (s : zI × zC × Int32) : Prop := ∀ (u3 : Option Value) (hu3 : px_cz u3 = true), Ev S xs 290 21 [some (.ref 3), some (.ref 1), some (.int s.2.2), u3] [] (zH s.1 s.2.1 Y Γ D O M ou od j) y
set_option maxRecDepth 4000 in
theorem rS_read_j77 {S : Nat} {xs : Nat → Int32} {I : zI} {C : zC} {Y : Nat → Int32} {Γ : Nat → zG} {D : zD} {O : Nat → Int32} {M : zM} {ou : Nat → Int64} {od : Nat → UInt64} {j : Nat} {a2 : Int32} {a0t : Bool} {y : (Option Value ⊕ String) × px_H} {x : (zI × zC × Int32) ⊕ (Bool × zI × zC)}  (hx : fS_read_j77 I C a2 a0t = some x) (hM : (Sum.elim (qS_read_21 S xs Y Γ D O M ou od j y) (fun X : Bool × zI × zC => y = (((.inl (some (.int (b2i X.1)))), (zH X.2.1 X.2.2 Y Γ D O M ou od j)) : (Option Value ⊕ String) × px_H))) x) (u3 : Option Value) (hu3 : px_cz u3 = true) : Ev S xs 290 77 [some (.ref 3), some (.ref 1), some (.int a2), u3] [.int (b2i a0t)] (zH I C Y Γ D O M ou od j) y := by
  have hk : pt_mt[290]? = some pt_r290 := rfl
  unfold fS_read_j77 at hx
  refine ev_ls (L' := [some (.ref 3), some (.ref 1), some (.int a2), some (.int (b2i a0t))]) (st' := []) (pc' := 78) hk (.istore_n 3) 1 rfl rfl rfl rfl ?_
  refine ev_ls (L' := [some (.ref 3), some (.ref 1), some (.int a2), some (.int (b2i a0t))]) (st' := [.int (b2i a0t)]) (pc' := 79) hk (.iload_n 3) 1 rfl rfl rfl rfl ?_
  refine ev_d1 84 82 hk rfl rfl rfl rfl (px_bne hx (fun hc hx => ?_) (fun hc hx => ?_))
  · refine ev_ls (L' := [some (.ref 3), some (.ref 1), some (.int (a2 + 1)), some (.int (b2i a0t))]) (st' := []) (pc' := 87) hk (.iinc 2 1) 3 rfl rfl rfl rfl ?_
    refine ev_jp (pc' := 21) (st' := []) hk (.goto (-66)) 3 rfl rfl rfl rfl rfl ?_
    cases hx
    exact hM (some (.int (b2i a0t))) rfl
  · refine ev_op (st' := [.int 0]) (pc' := 83) hk (.iconst 0) 1 rfl rfl rfl ?_
    cases hx
    obtain rfl := hM
    exact ev_retZ false rfl hk rfl rfl
set_option maxRecDepth 4000 in
theorem rS_read_j72 {S : Nat} {xs : Nat → Int32} {I : zI} {C : zC} {Y : Nat → Int32} {Γ : Nat → zG} {D : zD} {O : Nat → Int32} {M : zM} {ou : Nat → Int64} {od : Nat → UInt64} {j : Nat} {a2 : Int32} {y : (Option Value ⊕ String) × px_H} {x : (zI × zC × Int32) ⊕ (Bool × zI × zC)}  (hx : fS_read_j72 I C a2 = some x) (hM : (Sum.elim (qS_read_21 S xs Y Γ D O M ou od j y) (fun X : Bool × zI × zC => y = (((.inl (some (.int (b2i X.1)))), (zH X.2.1 X.2.2 Y Γ D O M ou od j)) : (Option Value ⊕ String) × px_H))) x) (u3 : Option Value) (hu3 : px_cz u3 = true) : Ev S xs 290 72 [some (.ref 3), some (.ref 1), some (.int a2), u3] [] (zH I C Y Γ D O M ou od j) y := by
  have hk : pt_mt[290]? = some pt_r290 := rfl
  unfold fS_read_j72 at hx
  refine ev_ls (L' := [some (.ref 3), some (.ref 1), some (.int a2), u3]) (st' := [.ref 3]) (pc' := 73) hk (.aload_n 0) 1 rfl rfl rfl rfl ?_
  refine ev_ls (L' := [some (.ref 3), some (.ref 1), some (.int a2), u3]) (st' := [.ref 1, .ref 3]) (pc' := 74) hk (.aload_n 1) 1 rfl rfl rfl rfl ?_
  obtain ⟨v10, I8, C9, hc11, hx⟩ := bnd3_some hx
  refine ev_cv 291 1 [.int (b2i v10)] 77 hk rfl rfl rfl rfl lk_script rfl rfl rfl (rS_readCommand hc11) rfl rfl rfl rfl ?_
  exact rS_read_j77 hx hM u3 hu3
set_option maxRecDepth 4000 in
theorem rS_read_j48 {S : Nat} {xs : Nat → Int32} {I : zI} {C : zC} {Y : Nat → Int32} {Γ : Nat → zG} {D : zD} {O : Nat → Int32} {M : zM} {ou : Nat → Int64} {od : Nat → UInt64} {j : Nat} {a2 : Int32} {y : (Option Value ⊕ String) × px_H} {x : (zI × zC × Int32) ⊕ (Bool × zI × zC)}  (hx : fS_read_j48 I C a2 = some x) (hM : (Sum.elim (qS_read_21 S xs Y Γ D O M ou od j y) (fun X : Bool × zI × zC => y = (((.inl (some (.int (b2i X.1)))), (zH X.2.1 X.2.2 Y Γ D O M ou od j)) : (Option Value ⊕ String) × px_H))) x) (u3 : Option Value) (hu3 : px_cz u3 = true) : Ev S xs 290 48 [some (.ref 3), some (.ref 1), some (.int a2), u3] [] (zH I C Y Γ D O M ou od j) y := by
  have hk : pt_mt[290]? = some pt_r290 := rfl
  unfold fS_read_j48 at hx
  refine ev_ls (L' := [some (.ref 3), some (.ref 1), some (.int a2), u3]) (st' := [.ref 1]) (pc' := 49) hk (.aload_n 1) 1 rfl rfl rfl rfl ?_
  refine ev_op (st' := [.int 41, .ref 1]) (pc' := 51) hk (.bipush 41) 2 rfl rfl rfl ?_
  refine ev_cv 272 1 [.int (b2i (fI_isSign I 41))] 54 hk rfl rfl rfl rfl lk_input rfl rfl rfl (rI_isSign rfl) rfl rfl rfl rfl ?_
  refine ev_d1 72 57 hk rfl rfl rfl rfl (px_beq hx (fun hc hx => ?_) (fun hc hx => ?_))
  · exact rS_read_j72 hx hM u3 hu3
  · refine ev_ls (L' := [some (.ref 3), some (.ref 1), some (.int a2), u3]) (st' := [.ref 3]) (pc' := 58) hk (.aload_n 0) 1 rfl rfl rfl rfl ?_
    refine ev_gf (.int (sF C 6)) 61 hk rfl rfl lk_script rfl rfl ?_
    refine ev_d1 72 64 hk rfl rfl rfl rfl (px_cle hx (fun hc hx => ?_) (fun hc hx => ?_))
    · exact rS_read_j72 hx hM u3 hu3
    · refine ev_ls (L' := [some (.ref 3), some (.ref 1), some (.int a2), u3]) (st' := [.ref 3]) (pc' := 65) hk (.aload_n 0) 1 rfl rfl rfl rfl ?_
      refine ev_ls (L' := [some (.ref 3), some (.ref 1), some (.int a2), u3]) (st' := [.ref 1, .ref 3]) (pc' := 66) hk (.aload_n 1) 1 rfl rfl rfl rfl ?_
      obtain ⟨v6, I4, C5, hc7, hx⟩ := bnd3_some hx
      refine ev_cv 284 1 [.int (b2i v6)] 69 hk rfl rfl rfl rfl lk_script rfl rfl rfl (rS_closeRepeat hc7) rfl rfl rfl rfl ?_
      refine ev_jp (pc' := 77) (st' := [.int (b2i v6)]) hk (.goto 8) 3 rfl rfl rfl rfl rfl ?_
      exact rS_read_j77 hx hM u3 hu3
set_option maxRecDepth 4000 in
theorem rS_read_b21 {S : Nat} {xs : Nat → Int32} {Y : Nat → Int32} {Γ : Nat → zG} {D : zD} {O : Nat → Int32} {M : zM} {ou : Nat → Int64} {od : Nat → UInt64} {j : Nat}  {y : (Option Value ⊕ String) × px_H} {s : zI × zC × Int32} {x : (zI × zC × Int32) ⊕ (Bool × zI × zC)}  (hx : fS_read_b21 s.1 s.2.1 s.2.2 = some x) (hM : (Sum.elim (qS_read_21 S xs Y Γ D O M ou od j y) (fun X : Bool × zI × zC => y = (((.inl (some (.int (b2i X.1)))), (zH X.2.1 X.2.2 Y Γ D O M ou od j)) : (Option Value ⊕ String) × px_H))) x) : qS_read_21 S xs Y Γ D O M ou od j y s := by
  obtain ⟨I, C, a2⟩ := s
  intro u3 hu3
  have hk : pt_mt[290]? = some pt_r290 := rfl
  unfold fS_read_b21 at hx
  try dsimp only at hx
  refine ev_ls (L' := [some (.ref 3), some (.ref 1), some (.int a2), u3]) (st' := [.int a2]) (pc' := 22) hk (.iload_n 2) 1 rfl rfl rfl rfl ?_
  refine ev_op (st' := [.int 600, .int a2]) (pc' := 25) hk (.sipush 600) 3 rfl rfl rfl ?_
  refine ev_d2 90 28 hk rfl rfl rfl rfl (px_cgt hx (fun hc hx => ?_) (fun hc hx => ?_))
  · refine ev_ls (L' := [some (.ref 3), some (.ref 1), some (.int a2), u3]) (st' := [.ref 1]) (pc' := 91) hk (.aload_n 1) 1 rfl rfl rfl rfl ?_
    refine ev_op (st' := [.int 1, .ref 1]) (pc' := 92) hk (.iconst 1) 1 rfl rfl rfl ?_
    obtain ⟨v13, I12, hc14, hx⟩ := bnd2_some hx
    refine ev_cv 266 1 [.int (b2i v13)] 95 hk rfl rfl rfl rfl lk_input rfl rfl rfl (rI_fail hc14) rfl rfl rfl rfl ?_
    cases hx
    obtain rfl := hM
    exact ev_retZ _ rfl hk rfl rfl
  · refine ev_ls (L' := [some (.ref 3), some (.ref 1), some (.int a2), u3]) (st' := [.ref 1]) (pc' := 29) hk (.aload_n 1) 1 rfl rfl rfl rfl ?_
    obtain ⟨I15, hc16, hx⟩ := bnd_some hx
    refine ev_cv 273 0 [] 32 hk rfl rfl rfl rfl lk_input rfl rfl rfl (rI_next hc16) rfl rfl rfl rfl ?_
    refine ev_ls (L' := [some (.ref 3), some (.ref 1), some (.int a2), u3]) (st' := [.ref 1]) (pc' := 33) hk (.aload_n 1) 1 rfl rfl rfl rfl ?_
    refine ev_gf (.int (iF I15 4)) 36 hk rfl rfl lk_input rfl rfl ?_
    refine ev_d1 48 39 hk rfl rfl rfl rfl (px_cne hx (fun hc hx => ?_) (fun hc hx => ?_))
    · exact rS_read_j48 hx hM u3 hu3
    · refine ev_ls (L' := [some (.ref 3), some (.ref 1), some (.int a2), u3]) (st' := [.ref 3]) (pc' := 40) hk (.aload_n 0) 1 rfl rfl rfl rfl ?_
      refine ev_gf (.int (sF C 6)) 43 hk rfl rfl lk_script rfl rfl ?_
      refine ev_d1 48 46 hk rfl rfl rfl rfl (px_cne hx (fun hc hx => ?_) (fun hc hx => ?_))
      · exact rS_read_j48 hx hM u3 hu3
      · refine ev_op (st' := [.int 1]) (pc' := 47) hk (.iconst 1) 1 rfl rfl rfl ?_
        cases hx
        obtain rfl := hM
        exact ev_retZ true rfl hk rfl rfl
set_option maxRecDepth 2000 in
theorem rS_read {S : Nat} {xs : Nat → Int32} {I : zI} {C : zC} {Y : Nat → Int32} {Γ : Nat → zG} {D : zD} {O : Nat → Int32} {M : zM} {ou : Nat → Int64} {od : Nat → UInt64} {j : Nat}  {X : Bool × zI × zC}   (hx : fS_read I C = some X) : Ev S xs 290 0 [some (.ref 3), some (.ref 1), none, none] [] (zH I C Y Γ D O M ou od j) (((.inl (some (.int (b2i X.1)))), (zH X.2.1 X.2.2 Y Γ D O M ou od j)) : (Option Value ⊕ String) × px_H) := by
  generalize hM : (((.inl (some (.int (b2i X.1)))), (zH X.2.1 X.2.2 Y Γ D O M ou od j)) : (Option Value ⊕ String) × px_H) = y
  replace hM := hM.symm
  have hk : pt_mt[290]? = some pt_r290 := rfl
  unfold fS_read at hx
  refine ev_ls (L' := [some (.ref 3), some (.ref 1), none, none]) (st' := [.ref 3]) (pc' := 1) hk (.aload_n 0) 1 rfl rfl rfl rfl ?_
  refine ev_op (st' := [.int 0, .ref 3]) (pc' := 2) hk (.iconst 0) 1 rfl rfl rfl ?_
  obtain ⟨C17, hC17, hx⟩ := bnd_some hx
  have hC17 := Option.some.inj hC17
  refine ev_pf 5 hk rfl rfl lk_script rfl rfl rfl (sf_5_0 hC17) rfl ?_
  refine ev_ls (L' := [some (.ref 3), some (.ref 1), none, none]) (st' := [.ref 3]) (pc' := 6) hk (.aload_n 0) 1 rfl rfl rfl rfl ?_
  refine ev_op (st' := [.int 0, .ref 3]) (pc' := 7) hk (.iconst 0) 1 rfl rfl rfl ?_
  obtain ⟨C18, hC18, hx⟩ := bnd_some hx
  have hC18 := Option.some.inj hC18
  refine ev_pf 10 hk rfl rfl lk_script rfl rfl rfl (sf_5_1 hC18) rfl ?_
  refine ev_ls (L' := [some (.ref 3), some (.ref 1), none, none]) (st' := [.ref 3]) (pc' := 11) hk (.aload_n 0) 1 rfl rfl rfl rfl ?_
  refine ev_op (st' := [.int 0, .ref 3]) (pc' := 12) hk (.iconst 0) 1 rfl rfl rfl ?_
  obtain ⟨C19, hC19, hx⟩ := bnd_some hx
  have hC19 := Option.some.inj hC19
  refine ev_pf 15 hk rfl rfl lk_script rfl rfl rfl (sf_5_6 hC19) rfl ?_
  refine ev_ls (L' := [some (.ref 3), some (.ref 1), none, none]) (st' := [.ref 1]) (pc' := 16) hk (.aload_n 1) 1 rfl rfl rfl rfl ?_
  obtain ⟨I20, hc21, hx⟩ := bnd_some hx
  refine ev_cv 274 0 [] 19 hk rfl rfl rfl rfl lk_input rfl rfl rfl (rI_start hc21) rfl rfl rfl rfl ?_
  refine ev_op (st' := [.int 0]) (pc' := 20) hk (.iconst 0) 1 rfl rfl rfl ?_
  refine ev_ls (L' := [some (.ref 3), some (.ref 1), some (.int 0), none]) (st' := []) (pc' := 21) hk (.istore_n 2) 1 rfl rfl rfl rfl ?_
  exact ev_iter (qS_read_21 S xs Y Γ D O M ou od j _) (fun X : Bool × zI × zC => y = (((.inl (some (.int (b2i X.1)))), (zH X.2.1 X.2.2 Y Γ D O M ou od j)) : (Option Value ⊕ String) × px_H)) (fun s x hb hM => rS_read_b21 hb hM) fu _ _ hx hM none rfl
set_option maxRecDepth 4000 in
theorem rS_refusalOf {S : Nat} {xs : Nat → Int32} {I : zI} {C : zC} {Y : Nat → Int32} {Γ : Nat → zG} {D : zD} {O : Nat → Int32} {M : zM} {ou : Nat → Int64} {od : Nat → UInt64} {j : Nat} {g : Nat} {G : zG} {a2 : Int32} {X : Int32}  (hg : isG g) (hx : fS_refusalOf C G a2 = some X) : Ev S xs 293 0 [some (.ref 3), some (.ref g), some (.int a2), none, none] [] (zH I C Y (gup Γ g G) D O M ou od j) (((.inl (some (.int X))), (zH I C Y (gup Γ g G) D O M ou od j)) : (Option Value ⊕ String) × px_H) := by
  generalize hM : (((.inl (some (.int X))), (zH I C Y (gup Γ g G) D O M ou od j)) : (Option Value ⊕ String) × px_H) = y
  replace hM := hM.symm
  have hk : pt_mt[293]? = some pt_r293 := rfl
  unfold fS_refusalOf at hx
  refine ev_ls (L' := [some (.ref 3), some (.ref g), some (.int a2), none, none]) (st' := [.ref 3]) (pc' := 1) hk (.aload_n 0) 1 rfl rfl rfl rfl ?_
  refine ev_gf (.ref 5) 4 hk rfl rfl lk_script rfl rfl ?_
  refine ev_ls (L' := [some (.ref 3), some (.ref g), some (.int a2), none, none]) (st' := [.int a2, .ref 5]) (pc' := 5) hk (.iload_n 2) 1 rfl rfl rfl rfl ?_
  obtain ⟨v5, hv5, hx⟩ := bnd_some hx
  refine ev_ial hv5 6 hk rfl lk_sa3 rfl ?_
  refine ev_ls (L' := [some (.ref 3), some (.ref g), some (.int a2), some (.int v5), none]) (st' := []) (pc' := 7) hk (.istore_n 3) 1 rfl rfl rfl rfl ?_
  refine ev_ls (L' := [some (.ref 3), some (.ref g), some (.int a2), some (.int v5), none]) (st' := [.ref 3]) (pc' := 8) hk (.aload_n 0) 1 rfl rfl rfl rfl ?_
  refine ev_gf (.ref 6) 11 hk rfl rfl lk_script rfl rfl ?_
  refine ev_ls (L' := [some (.ref 3), some (.ref g), some (.int a2), some (.int v5), none]) (st' := [.int a2, .ref 6]) (pc' := 12) hk (.iload_n 2) 1 rfl rfl rfl rfl ?_
  obtain ⟨v6, hv6, hx⟩ := bnd_some hx
  refine ev_ial hv6 13 hk rfl lk_sa4 rfl ?_
  refine ev_ls (L' := [some (.ref 3), some (.ref g), some (.int a2), some (.int v5), some (.int v6)]) (st' := []) (pc' := 15) hk (.istore 4) 2 rfl rfl rfl rfl ?_
  refine ev_ls (L' := [some (.ref 3), some (.ref g), some (.int a2), some (.int v5), some (.int v6)]) (st' := [.ref 3]) (pc' := 16) hk (.aload_n 0) 1 rfl rfl rfl rfl ?_
  refine ev_gf (.ref 4) 19 hk rfl rfl lk_script rfl rfl ?_
  refine ev_ls (L' := [some (.ref 3), some (.ref g), some (.int a2), some (.int v5), some (.int v6)]) (st' := [.int a2, .ref 4]) (pc' := 20) hk (.iload_n 2) 1 rfl rfl rfl rfl ?_
  obtain ⟨v7, hv7, hx⟩ := bnd_some hx
  refine ev_ial hv7 21 hk rfl lk_sa2 rfl ?_
  refine ev_ts 1 56 hk rfl rfl (by decide +kernel) hx (fun hc hx => ?_) (fun hn1 hx => ?_)
  · refine ev_ls (L' := [some (.ref 3), some (.ref g), some (.int a2), some (.int v5), some (.int v6)]) (st' := [.ref g]) (pc' := 57) hk (.aload_n 1) 1 rfl rfl rfl rfl ?_
    refine ev_ls (L' := [some (.ref 3), some (.ref g), some (.int a2), some (.int v5), some (.int v6)]) (st' := [.int v5, .ref g]) (pc' := 58) hk (.iload_n 3) 1 rfl rfl rfl rfl ?_
    refine ev_ls (L' := [some (.ref 3), some (.ref g), some (.int a2), some (.int v5), some (.int v6)]) (st' := [.int v6, .int v5, .ref g]) (pc' := 60) hk (.iload 4) 2 rfl rfl rfl rfl ?_
    obtain ⟨v8, hc9, hx⟩ := bnd_some hx
    refine ev_cv 227 2 [.int v8] 63 hk rfl rfl rfl rfl (lk_globe hg gup_same) rfl rfl rfl (rG_hemRefusal hg hc9) rfl rfl rfl rfl ?_
    cases hx
    obtain rfl := hM
    exact ev_retI hk rfl rfl
  refine ev_ts 2 64 hk rfl rfl (by decide +kernel) hx (fun hc hx => ?_) (fun hn2 hx => ?_)
  · refine ev_ls (L' := [some (.ref 3), some (.ref g), some (.int a2), some (.int v5), some (.int v6)]) (st' := [.ref g]) (pc' := 65) hk (.aload_n 1) 1 rfl rfl rfl rfl ?_
    refine ev_ls (L' := [some (.ref 3), some (.ref g), some (.int a2), some (.int v5), some (.int v6)]) (st' := [.int v5, .ref g]) (pc' := 66) hk (.iload_n 3) 1 rfl rfl rfl rfl ?_
    refine ev_ls (L' := [some (.ref 3), some (.ref g), some (.int a2), some (.int v5), some (.int v6)]) (st' := [.int v6, .int v5, .ref g]) (pc' := 68) hk (.iload 4) 2 rfl rfl rfl rfl ?_
    obtain ⟨v10, hc11, hx⟩ := bnd_some hx
    refine ev_cv 247 2 [.int v10] 71 hk rfl rfl rfl rfl (lk_globe hg gup_same) rfl rfl rfl (rG_sewRefusal hg hc11) rfl rfl rfl rfl ?_
    cases hx
    obtain rfl := hM
    exact ev_retI hk rfl rfl
  refine ev_ts 3 72 hk rfl rfl (by decide +kernel) hx (fun hc hx => ?_) (fun hn3 hx => ?_)
  · refine ev_ls (L' := [some (.ref 3), some (.ref g), some (.int a2), some (.int v5), some (.int v6)]) (st' := [.ref g]) (pc' := 73) hk (.aload_n 1) 1 rfl rfl rfl rfl ?_
    refine ev_ls (L' := [some (.ref 3), some (.ref g), some (.int a2), some (.int v5), some (.int v6)]) (st' := [.int v5, .ref g]) (pc' := 74) hk (.iload_n 3) 1 rfl rfl rfl rfl ?_
    refine ev_ls (L' := [some (.ref 3), some (.ref g), some (.int a2), some (.int v5), some (.int v6)]) (st' := [.int v6, .int v5, .ref g]) (pc' := 76) hk (.iload 4) 2 rfl rfl rfl rfl ?_
    obtain ⟨v12, hc13, hx⟩ := bnd_some hx
    refine ev_cv 252 2 [.int v12] 79 hk rfl rfl rfl rfl (lk_globe hg gup_same) rfl rfl rfl (rG_stepRefusal hg hc13) rfl rfl rfl rfl ?_
    cases hx
    obtain rfl := hM
    exact ev_retI hk rfl rfl
  refine ev_ts 4 80 hk rfl rfl (by decide +kernel) hx (fun hc hx => ?_) (fun hn4 hx => ?_)
  · refine ev_ls (L' := [some (.ref 3), some (.ref g), some (.int a2), some (.int v5), some (.int v6)]) (st' := [.ref g]) (pc' := 81) hk (.aload_n 1) 1 rfl rfl rfl rfl ?_
    refine ev_ls (L' := [some (.ref 3), some (.ref g), some (.int a2), some (.int v5), some (.int v6)]) (st' := [.int v5, .ref g]) (pc' := 82) hk (.iload_n 3) 1 rfl rfl rfl rfl ?_
    refine ev_ls (L' := [some (.ref 3), some (.ref g), some (.int a2), some (.int v5), some (.int v6)]) (st' := [.int v6, .int v5, .ref g]) (pc' := 84) hk (.iload 4) 2 rfl rfl rfl rfl ?_
    refine ev_ls (L' := [some (.ref 3), some (.ref g), some (.int a2), some (.int v5), some (.int v6)]) (st' := [.ref 3, .int v6, .int v5, .ref g]) (pc' := 85) hk (.aload_n 0) 1 rfl rfl rfl rfl ?_
    refine ev_gf (.ref 7) 88 hk rfl rfl lk_script rfl rfl ?_
    refine ev_ls (L' := [some (.ref 3), some (.ref g), some (.int a2), some (.int v5), some (.int v6)]) (st' := [.int a2, .ref 7, .int v6, .int v5, .ref g]) (pc' := 89) hk (.iload_n 2) 1 rfl rfl rfl rfl ?_
    obtain ⟨v14, hv14, hx⟩ := bnd_some hx
    refine ev_ial hv14 90 hk rfl lk_sa5 rfl ?_
    obtain ⟨v15, hc16, hx⟩ := bnd_some hx
    refine ev_cv 256 3 [.int v15] 93 hk rfl rfl rfl rfl (lk_globe hg gup_same) rfl rfl rfl (rG_walkRefusal hg hc16) rfl rfl rfl rfl ?_
    cases hx
    obtain rfl := hM
    exact ev_retI hk rfl rfl
  refine ev_ts 5 94 hk rfl rfl (by decide +kernel) hx (fun hc hx => ?_) (fun hn5 hx => ?_)
  · refine ev_ls (L' := [some (.ref 3), some (.ref g), some (.int a2), some (.int v5), some (.int v6)]) (st' := [.ref g]) (pc' := 95) hk (.aload_n 1) 1 rfl rfl rfl rfl ?_
    refine ev_ls (L' := [some (.ref 3), some (.ref g), some (.int a2), some (.int v5), some (.int v6)]) (st' := [.int v5, .ref g]) (pc' := 96) hk (.iload_n 3) 1 rfl rfl rfl rfl ?_
    obtain ⟨v17, hc18, hx⟩ := bnd_some hx
    refine ev_cv 244 1 [.int v17] 99 hk rfl rfl rfl rfl (lk_globe hg gup_same) rfl rfl rfl (rG_ripRefusal hg hc18) rfl rfl rfl rfl ?_
    cases hx
    obtain rfl := hM
    exact ev_retI hk rfl rfl
  refine ev_tsd 100 (lo := 1) (n := 5) hk rfl (ts_all1_5 hn1 hn2 hn3 hn4 hn5) (by decide) (by decide +kernel) rfl ?_
  refine ev_ls (L' := [some (.ref 3), some (.ref g), some (.int a2), some (.int v5), some (.int v6)]) (st' := [.int v5]) (pc' := 101) hk (.iload_n 3) 1 rfl rfl rfl rfl ?_
  refine ev_cs 242 1 [.int (fG_passRefusal v5)] 104 hk rfl rfl (by decide) rfl rfl rfl (rG_passRefusal rfl) rfl rfl rfl rfl ?_
  cases hx
  obtain rfl := hM
  exact ev_retI hk rfl rfl
set_option maxRecDepth 4000 in
theorem rS_execute {S : Nat} {xs : Nat → Int32} {I : zI} {C : zC} {Y : Nat → Int32} {Γ : Nat → zG} {D : zD} {O : Nat → Int32} {M : zM} {ou : Nat → Int64} {od : Nat → UInt64} {j : Nat} {g : Nat} {G : zG} {a2 : Int32} {X : Bool × zG}  (hg : isG g) (hx : fS_execute C G a2 = some X) : Ev S xs 285 0 [some (.ref 3), some (.ref g), some (.int a2), none, none, none] [] (zH I C Y (gup Γ g G) D O M ou od j) (((.inl (some (.int (b2i X.1)))), (zH I C Y (gup Γ g X.2) D O M ou od j)) : (Option Value ⊕ String) × px_H) := by
  generalize hM : (((.inl (some (.int (b2i X.1)))), (zH I C Y (gup Γ g X.2) D O M ou od j)) : (Option Value ⊕ String) × px_H) = y
  replace hM := hM.symm
  have hk : pt_mt[285]? = some pt_r285 := rfl
  unfold fS_execute at hx
  refine ev_ls (L' := [some (.ref 3), some (.ref g), some (.int a2), none, none, none]) (st' := [.ref 3]) (pc' := 1) hk (.aload_n 0) 1 rfl rfl rfl rfl ?_
  refine ev_gf (.ref 5) 4 hk rfl rfl lk_script rfl rfl ?_
  refine ev_ls (L' := [some (.ref 3), some (.ref g), some (.int a2), none, none, none]) (st' := [.int a2, .ref 5]) (pc' := 5) hk (.iload_n 2) 1 rfl rfl rfl rfl ?_
  obtain ⟨v7, hv7, hx⟩ := bnd_some hx
  refine ev_ial hv7 6 hk rfl lk_sa3 rfl ?_
  refine ev_ls (L' := [some (.ref 3), some (.ref g), some (.int a2), some (.int v7), none, none]) (st' := []) (pc' := 7) hk (.istore_n 3) 1 rfl rfl rfl rfl ?_
  refine ev_ls (L' := [some (.ref 3), some (.ref g), some (.int a2), some (.int v7), none, none]) (st' := [.ref 3]) (pc' := 8) hk (.aload_n 0) 1 rfl rfl rfl rfl ?_
  refine ev_gf (.ref 6) 11 hk rfl rfl lk_script rfl rfl ?_
  refine ev_ls (L' := [some (.ref 3), some (.ref g), some (.int a2), some (.int v7), none, none]) (st' := [.int a2, .ref 6]) (pc' := 12) hk (.iload_n 2) 1 rfl rfl rfl rfl ?_
  obtain ⟨v8, hv8, hx⟩ := bnd_some hx
  refine ev_ial hv8 13 hk rfl lk_sa4 rfl ?_
  refine ev_ls (L' := [some (.ref 3), some (.ref g), some (.int a2), some (.int v7), some (.int v8), none]) (st' := []) (pc' := 15) hk (.istore 4) 2 rfl rfl rfl rfl ?_
  refine ev_ls (L' := [some (.ref 3), some (.ref g), some (.int a2), some (.int v7), some (.int v8), none]) (st' := [.ref 3]) (pc' := 16) hk (.aload_n 0) 1 rfl rfl rfl rfl ?_
  refine ev_gf (.ref 7) 19 hk rfl rfl lk_script rfl rfl ?_
  refine ev_ls (L' := [some (.ref 3), some (.ref g), some (.int a2), some (.int v7), some (.int v8), none]) (st' := [.int a2, .ref 7]) (pc' := 20) hk (.iload_n 2) 1 rfl rfl rfl rfl ?_
  obtain ⟨v9, hv9, hx⟩ := bnd_some hx
  refine ev_ial hv9 21 hk rfl lk_sa5 rfl ?_
  refine ev_ls (L' := [some (.ref 3), some (.ref g), some (.int a2), some (.int v7), some (.int v8), some (.int v9)]) (st' := []) (pc' := 23) hk (.istore 5) 2 rfl rfl rfl rfl ?_
  refine ev_ls (L' := [some (.ref 3), some (.ref g), some (.int a2), some (.int v7), some (.int v8), some (.int v9)]) (st' := [.ref 3]) (pc' := 24) hk (.aload_n 0) 1 rfl rfl rfl rfl ?_
  refine ev_ls (L' := [some (.ref 3), some (.ref g), some (.int a2), some (.int v7), some (.int v8), some (.int v9)]) (st' := [.ref g, .ref 3]) (pc' := 25) hk (.aload_n 1) 1 rfl rfl rfl rfl ?_
  refine ev_ls (L' := [some (.ref 3), some (.ref g), some (.int a2), some (.int v7), some (.int v8), some (.int v9)]) (st' := [.int a2, .ref g, .ref 3]) (pc' := 26) hk (.iload_n 2) 1 rfl rfl rfl rfl ?_
  obtain ⟨v10, hc11, hx⟩ := bnd_some hx
  refine ev_cv 293 2 [.int v10] 29 hk rfl rfl rfl rfl lk_script rfl rfl rfl (rS_refusalOf hg hc11) rfl rfl rfl rfl ?_
  refine ev_d1 34 32 hk rfl rfl rfl rfl (px_ceq hx (fun hc hx => ?_) (fun hc hx => ?_))
  · refine ev_ls (L' := [some (.ref 3), some (.ref g), some (.int a2), some (.int v7), some (.int v8), some (.int v9)]) (st' := [.ref 3]) (pc' := 35) hk (.aload_n 0) 1 rfl rfl rfl rfl ?_
    refine ev_gf (.ref 4) 38 hk rfl rfl lk_script rfl rfl ?_
    refine ev_ls (L' := [some (.ref 3), some (.ref g), some (.int a2), some (.int v7), some (.int v8), some (.int v9)]) (st' := [.int a2, .ref 4]) (pc' := 39) hk (.iload_n 2) 1 rfl rfl rfl rfl ?_
    obtain ⟨v12, hv12, hx⟩ := bnd_some hx
    refine ev_ial hv12 40 hk rfl lk_sa2 rfl ?_
    refine ev_ts 1 76 hk rfl rfl (by decide +kernel) hx (fun hc hx => ?_) (fun hn1 hx => ?_)
    · refine ev_ls (L' := [some (.ref 3), some (.ref g), some (.int a2), some (.int v7), some (.int v8), some (.int v9)]) (st' := [.ref g]) (pc' := 77) hk (.aload_n 1) 1 rfl rfl rfl rfl ?_
      refine ev_ls (L' := [some (.ref 3), some (.ref g), some (.int a2), some (.int v7), some (.int v8), some (.int v9)]) (st' := [.int v7, .ref g]) (pc' := 78) hk (.iload_n 3) 1 rfl rfl rfl rfl ?_
      refine ev_ls (L' := [some (.ref 3), some (.ref g), some (.int a2), some (.int v7), some (.int v8), some (.int v9)]) (st' := [.int v8, .int v7, .ref g]) (pc' := 80) hk (.iload 4) 2 rfl rfl rfl rfl ?_
      obtain ⟨v14, G13, hc15, hx⟩ := bnd2_some hx
      refine ev_cv 248 2 [.int v14] 83 hk rfl rfl rfl rfl (lk_globe hg gup_same) rfl rfl rfl (rG_shiftHem hg hc15) rfl rfl rfl rfl ?_
      refine ev_op (st' := []) (pc' := 84) hk (.pop) 1 rfl rfl rfl ?_
      refine ev_jp (pc' := 145) (st' := []) hk (.goto 61) 3 rfl rfl rfl rfl rfl ?_
      refine ev_op (st' := [.int 1]) (pc' := 146) hk (.iconst 1) 1 rfl rfl rfl ?_
      cases hx
      obtain rfl := hM
      exact ev_retZ true rfl hk rfl rfl
    refine ev_ts 2 87 hk rfl rfl (by decide +kernel) hx (fun hc hx => ?_) (fun hn2 hx => ?_)
    · refine ev_ls (L' := [some (.ref 3), some (.ref g), some (.int a2), some (.int v7), some (.int v8), some (.int v9)]) (st' := [.ref g]) (pc' := 88) hk (.aload_n 1) 1 rfl rfl rfl rfl ?_
      refine ev_ls (L' := [some (.ref 3), some (.ref g), some (.int a2), some (.int v7), some (.int v8), some (.int v9)]) (st' := [.int v7, .ref g]) (pc' := 89) hk (.iload_n 3) 1 rfl rfl rfl rfl ?_
      refine ev_ls (L' := [some (.ref 3), some (.ref g), some (.int a2), some (.int v7), some (.int v8), some (.int v9)]) (st' := [.int v8, .int v7, .ref g]) (pc' := 91) hk (.iload 4) 2 rfl rfl rfl rfl ?_
      obtain ⟨v17, G16, hc18, hx⟩ := bnd2_some hx
      refine ev_cv 214 2 [.int v17] 94 hk rfl rfl rfl rfl (lk_globe hg gup_same) rfl rfl rfl (rG_addStitches hg hc18) rfl rfl rfl rfl ?_
      refine ev_op (st' := []) (pc' := 95) hk (.pop) 1 rfl rfl rfl ?_
      refine ev_jp (pc' := 145) (st' := []) hk (.goto 50) 3 rfl rfl rfl rfl rfl ?_
      refine ev_op (st' := [.int 1]) (pc' := 146) hk (.iconst 1) 1 rfl rfl rfl ?_
      cases hx
      obtain rfl := hM
      exact ev_retZ true rfl hk rfl rfl
    refine ev_ts 3 98 hk rfl rfl (by decide +kernel) hx (fun hc hx => ?_) (fun hn3 hx => ?_)
    · refine ev_ls (L' := [some (.ref 3), some (.ref g), some (.int a2), some (.int v7), some (.int v8), some (.int v9)]) (st' := [.ref g]) (pc' := 99) hk (.aload_n 1) 1 rfl rfl rfl rfl ?_
      refine ev_ls (L' := [some (.ref 3), some (.ref g), some (.int a2), some (.int v7), some (.int v8), some (.int v9)]) (st' := [.ref g, .ref g]) (pc' := 100) hk (.aload_n 1) 1 rfl rfl rfl rfl ?_
      refine ev_gf (.ref (g + 6)) 103 hk rfl rfl (lk_globe hg gup_same) rfl rfl ?_
      refine ev_ls (L' := [some (.ref 3), some (.ref g), some (.int a2), some (.int v7), some (.int v8), some (.int v9)]) (st' := [.int v7, .ref (g + 6), .ref g]) (pc' := 104) hk (.iload_n 3) 1 rfl rfl rfl rfl ?_
      obtain ⟨p19, hp19, hx⟩ := bnd_some hx
      have hpp19 := rix_lt hp19
      refine ev_aal (g + (7 + p19)) hp19 105 hk rfl (lk_spots hg gup_same) (by decide) (lk_sp hpp19) rfl ?_
      refine ev_ls (L' := [some (.ref 3), some (.ref g), some (.int a2), some (.int v7), some (.int v8), some (.int v9)]) (st' := [.int v8, .ref (g + (7 + p19)), .ref g]) (pc' := 107) hk (.iload 4) 2 rfl rfl rfl rfl ?_
      obtain ⟨G20, hc21, hx⟩ := bnd_some hx
      refine ev_cv 239 2 [] 110 hk rfl rfl rfl rfl (lk_globe hg gup_same) rfl rfl rfl (rG_makeStep hg hpp19 hc21) rfl rfl rfl rfl ?_
      refine ev_jp (pc' := 145) (st' := []) hk (.goto 35) 3 rfl rfl rfl rfl rfl ?_
      refine ev_op (st' := [.int 1]) (pc' := 146) hk (.iconst 1) 1 rfl rfl rfl ?_
      cases hx
      obtain rfl := hM
      exact ev_retZ true rfl hk rfl rfl
    refine ev_ts 4 113 hk rfl rfl (by decide +kernel) hx (fun hc hx => ?_) (fun hn4 hx => ?_)
    · refine ev_ls (L' := [some (.ref 3), some (.ref g), some (.int a2), some (.int v7), some (.int v8), some (.int v9)]) (st' := [.ref g]) (pc' := 114) hk (.aload_n 1) 1 rfl rfl rfl rfl ?_
      refine ev_gf (.ref (g + 6)) 117 hk rfl rfl (lk_globe hg gup_same) rfl rfl ?_
      refine ev_ls (L' := [some (.ref 3), some (.ref g), some (.int a2), some (.int v7), some (.int v8), some (.int v9)]) (st' := [.int v7, .ref (g + 6)]) (pc' := 118) hk (.iload_n 3) 1 rfl rfl rfl rfl ?_
      obtain ⟨p22, hp22, hx⟩ := bnd_some hx
      have hpp22 := rix_lt hp22
      refine ev_aal (g + (7 + p22)) hp22 119 hk rfl (lk_spots hg gup_same) (by decide) (lk_sp hpp22) rfl ?_
      refine ev_ls (L' := [some (.ref 3), some (.ref g), some (.int a2), some (.int v7), some (.int v8), some (.int v9)]) (st' := [.int v8, .ref (g + (7 + p22))]) (pc' := 121) hk (.iload 4) 2 rfl rfl rfl rfl ?_
      refine ev_ls (L' := [some (.ref 3), some (.ref g), some (.int a2), some (.int v7), some (.int v8), some (.int v9)]) (st' := [.int v9, .int v8, .ref (g + (7 + p22))]) (pc' := 123) hk (.iload 5) 2 rfl rfl rfl rfl ?_
      obtain ⟨v24, G23, hc25, hx⟩ := bnd2_some hx
      refine ev_cv 297 2 [.int v24] 126 hk rfl rfl rfl rfl (lk_spot hg hpp22 gup_same) rfl rfl rfl (rP_setOut hg hpp22 hc25) rfl rfl rfl rfl ?_
      refine ev_op (st' := []) (pc' := 127) hk (.pop) 1 rfl rfl rfl ?_
      refine ev_jp (pc' := 145) (st' := []) hk (.goto 18) 3 rfl rfl rfl rfl rfl ?_
      refine ev_op (st' := [.int 1]) (pc' := 146) hk (.iconst 1) 1 rfl rfl rfl ?_
      cases hx
      obtain rfl := hM
      exact ev_retZ true rfl hk rfl rfl
    refine ev_ts 5 130 hk rfl rfl (by decide +kernel) hx (fun hc hx => ?_) (fun hn5 hx => ?_)
    · refine ev_ls (L' := [some (.ref 3), some (.ref g), some (.int a2), some (.int v7), some (.int v8), some (.int v9)]) (st' := [.ref g]) (pc' := 131) hk (.aload_n 1) 1 rfl rfl rfl rfl ?_
      refine ev_ls (L' := [some (.ref 3), some (.ref g), some (.int a2), some (.int v7), some (.int v8), some (.int v9)]) (st' := [.int v7, .ref g]) (pc' := 132) hk (.iload_n 3) 1 rfl rfl rfl rfl ?_
      obtain ⟨v27, G26, hc28, hx⟩ := bnd2_some hx
      refine ev_cv 241 1 [.int v27] 135 hk rfl rfl rfl rfl (lk_globe hg gup_same) rfl rfl rfl (rG_openSeam hg hc28) rfl rfl rfl rfl ?_
      refine ev_op (st' := []) (pc' := 136) hk (.pop) 1 rfl rfl rfl ?_
      refine ev_jp (pc' := 145) (st' := []) hk (.goto 9) 3 rfl rfl rfl rfl rfl ?_
      refine ev_op (st' := [.int 1]) (pc' := 146) hk (.iconst 1) 1 rfl rfl rfl ?_
      cases hx
      obtain rfl := hM
      exact ev_retZ true rfl hk rfl rfl
    refine ev_tsd 139 (lo := 1) (n := 5) hk rfl (ts_all1_5 hn1 hn2 hn3 hn4 hn5) (by decide) (by decide +kernel) rfl ?_
    refine ev_ls (L' := [some (.ref 3), some (.ref g), some (.int a2), some (.int v7), some (.int v8), some (.int v9)]) (st' := [.ref g]) (pc' := 140) hk (.aload_n 1) 1 rfl rfl rfl rfl ?_
    refine ev_ls (L' := [some (.ref 3), some (.ref g), some (.int a2), some (.int v7), some (.int v8), some (.int v9)]) (st' := [.int v7, .ref g]) (pc' := 141) hk (.iload_n 3) 1 rfl rfl rfl rfl ?_
    obtain ⟨v30, G29, hc31, hx⟩ := bnd2_some hx
    refine ev_cv 234 1 [.int v30] 144 hk rfl rfl rfl rfl (lk_globe hg gup_same) rfl rfl rfl (rG_letPass hg hc31) rfl rfl rfl rfl ?_
    refine ev_op (st' := []) (pc' := 145) hk (.pop) 1 rfl rfl rfl ?_
    refine ev_op (st' := [.int 1]) (pc' := 146) hk (.iconst 1) 1 rfl rfl rfl ?_
    cases hx
    obtain rfl := hM
    exact ev_retZ true rfl hk rfl rfl
  · refine ev_op (st' := [.int 0]) (pc' := 33) hk (.iconst 0) 1 rfl rfl rfl ?_
    cases hx
    obtain rfl := hM
    exact ev_retZ false rfl hk rfl rfl
def qS_run_2 (S : Nat) (xs : Nat → Int32) (I : zI) (C : zC) (Y : Nat → Int32) (Γ : Nat → zG) (D : zD) (O : Nat → Int32) (M : zM) (ou : Nat → Int64) (od : Nat → UInt64) (j : Nat) (g : Nat) (y : (Option Value ⊕ String) × px_H) (s : zG × Int32) : Prop := Ev S xs 294 2 [some (.ref 3), some (.ref g), some (.int s.2)] [] (zH I C Y (gup Γ g s.1) D O M ou od j) y
set_option maxRecDepth 4000 in
theorem rS_run_b2 {S : Nat} {xs : Nat → Int32} {I : zI} {C : zC} {Y : Nat → Int32} {Γ : Nat → zG} {D : zD} {O : Nat → Int32} {M : zM} {ou : Nat → Int64} {od : Nat → UInt64} {j : Nat} {g : Nat}  {y : (Option Value ⊕ String) × px_H} {s : zG × Int32} {x : (zG × Int32) ⊕ (Int32 × zG)} (hg : isG g) (hx : fS_run_b2 C s.1 s.2 = some x) (hM : (Sum.elim (qS_run_2 S xs I C Y Γ D O M ou od j g y) (fun X : Int32 × zG => y = (((.inl (some (.int X.1))), (zH I C Y (gup Γ g X.2) D O M ou od j)) : (Option Value ⊕ String) × px_H))) x) : qS_run_2 S xs I C Y Γ D O M ou od j g y s := by
  obtain ⟨G, a2⟩ := s
  have hk : pt_mt[294]? = some pt_r294 := rfl
  unfold fS_run_b2 at hx
  try dsimp only at hx
  refine ev_ls (L' := [some (.ref 3), some (.ref g), some (.int a2)]) (st' := [.int a2]) (pc' := 3) hk (.iload_n 2) 1 rfl rfl rfl rfl ?_
  refine ev_ls (L' := [some (.ref 3), some (.ref g), some (.int a2)]) (st' := [.ref 3, .int a2]) (pc' := 4) hk (.aload_n 0) 1 rfl rfl rfl rfl ?_
  refine ev_gf (.int (sF C 1)) 7 hk rfl rfl lk_script rfl rfl ?_
  refine ev_d2 25 10 hk rfl rfl rfl rfl (px_cge hx (fun hc hx => ?_) (fun hc hx => ?_))
  · refine ev_ls (L' := [some (.ref 3), some (.ref g), some (.int a2)]) (st' := [.int a2]) (pc' := 26) hk (.iload_n 2) 1 rfl rfl rfl rfl ?_
    cases hx
    obtain rfl := hM
    exact ev_retI hk rfl rfl
  · refine ev_ls (L' := [some (.ref 3), some (.ref g), some (.int a2)]) (st' := [.ref 3]) (pc' := 11) hk (.aload_n 0) 1 rfl rfl rfl rfl ?_
    refine ev_ls (L' := [some (.ref 3), some (.ref g), some (.int a2)]) (st' := [.ref g, .ref 3]) (pc' := 12) hk (.aload_n 1) 1 rfl rfl rfl rfl ?_
    refine ev_ls (L' := [some (.ref 3), some (.ref g), some (.int a2)]) (st' := [.int a2, .ref g, .ref 3]) (pc' := 13) hk (.iload_n 2) 1 rfl rfl rfl rfl ?_
    obtain ⟨v2, G1, hc3, hx⟩ := bnd2_some hx
    refine ev_cv 285 2 [.int (b2i v2)] 16 hk rfl rfl rfl rfl lk_script rfl rfl rfl (rS_execute hg hc3) rfl rfl rfl rfl ?_
    refine ev_d1 25 19 hk rfl rfl rfl rfl (px_beq hx (fun hc hx => ?_) (fun hc hx => ?_))
    · refine ev_ls (L' := [some (.ref 3), some (.ref g), some (.int a2)]) (st' := [.int a2]) (pc' := 26) hk (.iload_n 2) 1 rfl rfl rfl rfl ?_
      cases hx
      obtain rfl := hM
      exact ev_retI hk rfl rfl
    · refine ev_ls (L' := [some (.ref 3), some (.ref g), some (.int (a2 + 1))]) (st' := []) (pc' := 22) hk (.iinc 2 1) 3 rfl rfl rfl rfl ?_
      refine ev_jp (pc' := 2) (st' := []) hk (.goto (-20)) 3 rfl rfl rfl rfl rfl ?_
      cases hx
      exact hM
set_option maxRecDepth 2000 in
theorem rS_run {S : Nat} {xs : Nat → Int32} {I : zI} {C : zC} {Y : Nat → Int32} {Γ : Nat → zG} {D : zD} {O : Nat → Int32} {M : zM} {ou : Nat → Int64} {od : Nat → UInt64} {j : Nat} {g : Nat} {G : zG}  {X : Int32 × zG}  (hg : isG g) (hx : fS_run C G = some X) : Ev S xs 294 0 [some (.ref 3), some (.ref g), none] [] (zH I C Y (gup Γ g G) D O M ou od j) (((.inl (some (.int X.1))), (zH I C Y (gup Γ g X.2) D O M ou od j)) : (Option Value ⊕ String) × px_H) := by
  generalize hM : (((.inl (some (.int X.1))), (zH I C Y (gup Γ g X.2) D O M ou od j)) : (Option Value ⊕ String) × px_H) = y
  replace hM := hM.symm
  have hk : pt_mt[294]? = some pt_r294 := rfl
  unfold fS_run at hx
  refine ev_op (st' := [.int 0]) (pc' := 1) hk (.iconst 0) 1 rfl rfl rfl ?_
  refine ev_ls (L' := [some (.ref 3), some (.ref g), some (.int 0)]) (st' := []) (pc' := 2) hk (.istore_n 2) 1 rfl rfl rfl rfl ?_
  exact ev_iter (qS_run_2 S xs I C Y Γ D O M ou od j g _) (fun X : Int32 × zG => y = (((.inl (some (.int X.1))), (zH I C Y (gup Γ g X.2) D O M ou od j)) : (Option Value ⊕ String) × px_H)) (fun s x hb hM => rS_run_b2 hg hb hM) fu _ _ hx hM 
set_option maxRecDepth 2000 in
theorem rX_runScript {S : Nat} {xs : Nat → Int32} {I : zI} {C : zC} {Y : Nat → Int32} {Γ : Nat → zG} {D : zD} {O : Nat → Int32} {M : zM} {ou : Nat → Int64} {od : Nat → UInt64} {j : Nat}  {X : (Int32 ⊕ String) × zI × zC × (Nat → Int32) × (Nat → zG)}   (hx : fX_runScript I C Y Γ = some X) : Ev S xs 353 0 [some (.ref 0), none] [] (zH I C Y Γ D O M ou od j) (Sum.elim (fun v => ((.inl (some (.int v))), (zH X.2.1 X.2.2.1 X.2.2.2.1 X.2.2.2.2 D O M ou od j))) (fun E => (.inr E, (zH X.2.1 X.2.2.1 X.2.2.2.1 X.2.2.2.2 D O M ou od (j + 1)))) X.1 : (Option Value ⊕ String) × px_H) := by
  generalize hM : (Sum.elim (fun v => ((.inl (some (.int v))), (zH X.2.1 X.2.2.1 X.2.2.2.1 X.2.2.2.2 D O M ou od j))) (fun E => (.inr E, (zH X.2.1 X.2.2.1 X.2.2.2.1 X.2.2.2.2 D O M ou od (j + 1)))) X.1 : (Option Value ⊕ String) × px_H) = y
  replace hM := hM.symm
  have hk : pt_mt[353]? = some pt_r353 := rfl
  unfold fX_runScript at hx
  refine ev_ls (L' := [some (.ref 0), none]) (st' := [.ref 0]) (pc' := 1) hk (.aload_n 0) 1 rfl rfl rfl rfl ?_
  refine ev_gf (.ref 3) 4 hk rfl rfl lk_dh rfl rfl ?_
  refine ev_ls (L' := [some (.ref 0), none]) (st' := [.ref 0, .ref 3]) (pc' := 5) hk (.aload_n 0) 1 rfl rfl rfl rfl ?_
  refine ev_gf (.ref 1) 8 hk rfl rfl lk_dh rfl rfl ?_
  obtain ⟨v4, I2, C3, hc5, hx⟩ := bnd3_some hx
  refine ev_cv 290 1 [.int (b2i v4)] 11 hk rfl rfl rfl rfl lk_script rfl rfl rfl (rS_read hc5) rfl rfl rfl rfl ?_
  refine ev_ls (L' := [some (.ref 0), some (.int (b2i v4))]) (st' := []) (pc' := 12) hk (.istore_n 1) 1 rfl rfl rfl rfl ?_
  refine ev_ls (L' := [some (.ref 0), some (.int (b2i v4))]) (st' := [.ref 0]) (pc' := 13) hk (.aload_n 0) 1 rfl rfl rfl rfl ?_
  refine ev_gf (.ref 1) 16 hk rfl rfl lk_dh rfl rfl ?_
  refine ev_op (st' := [.int 0, .ref 1]) (pc' := 17) hk (.iconst 0) 1 rfl rfl rfl ?_
  obtain ⟨I6, hI6, hx⟩ := bnd_some hx
  have hI6 := Option.some.inj hI6
  refine ev_pf 20 hk rfl rfl lk_input rfl rfl rfl (sf_3_1 hI6) rfl ?_
  refine ev_ls (L' := [some (.ref 0), some (.int (b2i v4))]) (st' := [.int (b2i v4)]) (pc' := 21) hk (.iload_n 1) 1 rfl rfl rfl rfl ?_
  refine ev_d1 34 24 hk rfl rfl rfl rfl (px_bne hx (fun hc hx => ?_) (fun hc hx => ?_))
  · refine ev_ls (L' := [some (.ref 0), some (.int (b2i v4))]) (st' := [.ref 0]) (pc' := 35) hk (.aload_n 0) 1 rfl rfl rfl rfl ?_
    refine ev_gf (.ref 88) 38 hk rfl rfl lk_dh rfl rfl ?_
    refine ev_ls (L' := [some (.ref 0), some (.int (b2i v4))]) (st' := [.ref 0, .ref 88]) (pc' := 39) hk (.aload_n 0) 1 rfl rfl rfl rfl ?_
    refine ev_gf (.ref 10) 42 hk rfl rfl lk_dh rfl rfl ?_
    obtain ⟨Y7, Γ8, hc9, hx⟩ := bnd2_some hx
    refine ev_cv 261 1 [] 45 hk rfl rfl rfl rfl lk_hist rfl rfl rfl (rY_remember isG_10 (by decide) hc9) rfl rfl rfl rfl ?_
    refine ev_ls (L' := [some (.ref 0), some (.int (b2i v4))]) (st' := [.ref 0]) (pc' := 46) hk (.aload_n 0) 1 rfl rfl rfl rfl ?_
    refine ev_gf (.ref 3) 49 hk rfl rfl lk_dh rfl rfl ?_
    refine ev_ls (L' := [some (.ref 0), some (.int (b2i v4))]) (st' := [.ref 0, .ref 3]) (pc' := 50) hk (.aload_n 0) 1 rfl rfl rfl rfl ?_
    refine ev_gf (.ref 10) 53 hk rfl rfl lk_dh rfl rfl ?_
    obtain ⟨v11, G10, hc12, hx⟩ := bnd2_some hx
    refine ev_cv 294 1 [.int v11] 56 hk rfl rfl rfl rfl lk_script rfl rfl rfl (ev_gs (rS_run isG_10 hc12)) rfl rfl rfl rfl ?_
    cases hx
    obtain rfl := hM
    exact ev_retI hk rfl rfl
  · cases hx
    obtain rfl := hM
    exact ev_tw hk rfl (by rfl) rfl zH_j
set_option maxRecDepth 2000 in
theorem rw_runScript {S : Nat} {xs : Nat → Int32} {I : zI} {C : zC} {Y : Nat → Int32} {Γ : Nat → zG} {D : zD} {O : Nat → Int32} {M : zM} {ou : Nat → Int64} {od : Nat → UInt64} {j : Nat}  {X : Int32 × zI × zC × (Nat → Int32) × (Nat → zG) × (Nat → Int64) × Nat}   (hx : fw_runScript I C Y Γ ou j = some X) : Ev S xs 402 0 [some (.ref 0), some (.ref 261), none] [] (zH I C Y Γ D O M ou od j) (((.inl (some (.int X.1))), (zH X.2.1 X.2.2.1 X.2.2.2.1 X.2.2.2.2.1 D O M X.2.2.2.2.2.1 od X.2.2.2.2.2.2)) : (Option Value ⊕ String) × px_H) := by
  generalize hM : (((.inl (some (.int X.1))), (zH X.2.1 X.2.2.1 X.2.2.2.1 X.2.2.2.2.1 D O M X.2.2.2.2.2.1 od X.2.2.2.2.2.2)) : (Option Value ⊕ String) × px_H) = y
  replace hM := hM.symm
  have hk : pt_mt[402]? = some pt_r402 := rfl
  unfold fw_runScript at hx
  refine ev_ls (L' := [some (.ref 0), some (.ref 261), none]) (st' := [.ref 261]) (pc' := 1) hk (.aload_n 1) 1 rfl rfl rfl rfl ?_
  refine ev_op (st' := [.int 0, .ref 261]) (pc' := 2) hk (.iconst 0) 1 rfl rfl rfl ?_
  refine ev_ls (L' := [some (.ref 0), some (.ref 261), none]) (st' := [.ref 0, .int 0, .ref 261]) (pc' := 3) hk (.aload_n 0) 1 rfl rfl rfl rfl ?_
  obtain ⟨r10, I2, C3, Y4, Γ5, hc6, hx⟩ := bnd5_some hx
  rcases r10 with v8 | E7
  · simp only [Sum.elim_inl] at hx
    refine ev_cv 353 0 [.int v8, .int 0, .ref 261] 6 hk rfl rfl rfl rfl lk_dh rfl rfl rfl (rX_runScript hc6) rfl rfl rfl rfl ?_
    refine ev_op (st' := [.long (Int32.toInt64 v8), .int 0, .ref 261]) (pc' := 7) hk (.i2l) 1 rfl rfl rfl ?_
    obtain ⟨ou9, hou9, hx⟩ := bnd_some hx
    have hou9 := Option.some.inj hou9
    refine ev_las (A := (vp_updL ou 0 (Int32.toInt64 v8))) rfl 8 hk rfl lk_ou (sa_ou hou9) rfl ?_
    refine ev_jp (pc' := 14) (st' := []) hk (.goto 6) 3 rfl rfl rfl rfl rfl ?_
    refine ev_op (st' := [.int 0]) (pc' := 15) hk (.iconst 0) 1 rfl rfl rfl ?_
    cases hx
    obtain rfl := hM
    exact ev_retI hk rfl rfl
  · simp only [Sum.elim_inr] at hx
    rcases ite_or hx with ⟨hE, hx⟩ | ⟨hE, hx⟩
    · subst hE
      refine ev_cvC 353 0 12 hk rfl rfl rfl rfl lk_dh rfl rfl rfl (t := 11) (by decide +kernel) (L' := [some (.ref 0), some (.ref 261), none]) rfl (rX_runScript hc6) rfl rfl ?_
      refine ev_op (st' := [.int 1]) (pc' := 13) hk (.iconst 1) 1 rfl rfl rfl ?_
      cases hx
      obtain rfl := hM
      exact ev_retI hk rfl rfl
    cases hx
set_option maxRecDepth 2000 in
theorem rM_here {S : Nat} {xs : Nat → Int32} {I : zI} {C : zC} {Y : Nat → Int32} {Γ : Nat → zG} {D : zD} {O : Nat → Int32} {M : zM} {ou : Nat → Int64} {od : Nat → UInt64} {j : Nat} {a1 : Int32} {X : Int32}   (hx : fM_here M a1 = some X) : Ev S xs 71 0 [some (.ref 247), some (.int a1)] [] (zH I C Y Γ D O M ou od j) (((.inl (some (.int X))), (zH I C Y Γ D O M ou od j)) : (Option Value ⊕ String) × px_H) := by
  generalize hM : (((.inl (some (.int X))), (zH I C Y Γ D O M ou od j)) : (Option Value ⊕ String) × px_H) = y
  replace hM := hM.symm
  have hk : pt_mt[71]? = some pt_r71 := rfl
  unfold fM_here at hx
  refine ev_ls (L' := [some (.ref 247), some (.int a1)]) (st' := [.ref 247]) (pc' := 1) hk (.aload_n 0) 1 rfl rfl rfl rfl ?_
  refine ev_gf (.int (mF M 4)) 4 hk rfl rfl lk_model rfl rfl ?_
  refine ev_ls (L' := [some (.ref 247), some (.int a1)]) (st' := [.int a1, .int (mF M 4)]) (pc' := 5) hk (.iload_n 1) 1 rfl rfl rfl rfl ?_
  refine ev_op (st' := [.int ((mF M 4) + a1)]) (pc' := 6) hk (.iadd) 1 rfl rfl rfl ?_
  refine ev_ls (L' := [some (.ref 247), some (.int a1)]) (st' := [.ref 247, .int ((mF M 4) + a1)]) (pc' := 7) hk (.aload_n 0) 1 rfl rfl rfl rfl ?_
  refine ev_gf (.int (mF M 3)) 10 hk rfl rfl lk_model rfl rfl ?_
  refine ev_d2 27 13 hk rfl rfl rfl rfl (px_cge hx (fun hc hx => ?_) (fun hc hx => ?_))
  · refine ev_op (st' := [.int (-1)]) (pc' := 28) hk (.iconst (-1)) 1 rfl rfl rfl ?_
    cases hx
    obtain rfl := hM
    exact ev_retI hk rfl rfl
  · refine ev_ls (L' := [some (.ref 247), some (.int a1)]) (st' := [.ref 247]) (pc' := 14) hk (.aload_n 0) 1 rfl rfl rfl rfl ?_
    refine ev_gf (.ref 248) 17 hk rfl rfl lk_model rfl rfl ?_
    refine ev_ls (L' := [some (.ref 247), some (.int a1)]) (st' := [.ref 247, .ref 248]) (pc' := 18) hk (.aload_n 0) 1 rfl rfl rfl rfl ?_
    refine ev_gf (.int (mF M 4)) 21 hk rfl rfl lk_model rfl rfl ?_
    refine ev_ls (L' := [some (.ref 247), some (.int a1)]) (st' := [.int a1, .int (mF M 4), .ref 248]) (pc' := 22) hk (.iload_n 1) 1 rfl rfl rfl rfl ?_
    refine ev_op (st' := [.int ((mF M 4) + a1), .ref 248]) (pc' := 23) hk (.iadd) 1 rfl rfl rfl ?_
    obtain ⟨v2, hv2, hx⟩ := bnd_some hx
    refine ev_ial hv2 24 hk rfl lk_m248 rfl ?_
    refine ev_jp (pc' := 28) (st' := [.int v2]) hk (.goto 4) 3 rfl rfl rfl rfl rfl ?_
    cases hx
    obtain rfl := hM
    exact ev_retI hk rfl rfl
set_option maxRecDepth 2000 in
theorem rM_isDigit {S : Nat} {xs : Nat → Int32} {I : zI} {C : zC} {Y : Nat → Int32} {Γ : Nat → zG} {D : zD} {O : Nat → Int32} {M : zM} {ou : Nat → Int64} {od : Nat → UInt64} {j : Nat} {a0 : Int32} {X : Bool}   (hx : fM_isDigit a0 = X) : Ev S xs 80 0 [some (.int a0)] [] (zH I C Y Γ D O M ou od j) (((.inl (some (.int (b2i X)))), (zH I C Y Γ D O M ou od j)) : (Option Value ⊕ String) × px_H) := by
  generalize hM : (((.inl (some (.int (b2i X)))), (zH I C Y Γ D O M ou od j)) : (Option Value ⊕ String) × px_H) = y
  replace hM := hM.symm
  have hk : pt_mt[80]? = some pt_r80 := rfl
  unfold fM_isDigit at hx
  refine ev_ls (L' := [some (.int a0)]) (st' := [.int a0]) (pc' := 1) hk (.iload_n 0) 1 rfl rfl rfl rfl ?_
  refine ev_op (st' := [.int 48, .int a0]) (pc' := 3) hk (.bipush 48) 2 rfl rfl rfl ?_
  refine ev_d2 16 6 hk rfl rfl rfl rfl (px_clt hx (fun hc hx => ?_) (fun hc hx => ?_))
  · refine ev_op (st' := [.int 0]) (pc' := 17) hk (.iconst 0) 1 rfl rfl rfl ?_
    cases hx
    obtain rfl := hM
    exact ev_retZ false rfl hk rfl rfl
  · refine ev_ls (L' := [some (.int a0)]) (st' := [.int a0]) (pc' := 7) hk (.iload_n 0) 1 rfl rfl rfl rfl ?_
    refine ev_op (st' := [.int 57, .int a0]) (pc' := 9) hk (.bipush 57) 2 rfl rfl rfl ?_
    refine ev_d2 16 12 hk rfl rfl rfl rfl (px_cgt hx (fun hc hx => ?_) (fun hc hx => ?_))
    · refine ev_op (st' := [.int 0]) (pc' := 17) hk (.iconst 0) 1 rfl rfl rfl ?_
      cases hx
      obtain rfl := hM
      exact ev_retZ false rfl hk rfl rfl
    · refine ev_op (st' := [.int 1]) (pc' := 13) hk (.iconst 1) 1 rfl rfl rfl ?_
      refine ev_jp (pc' := 17) (st' := [.int 1]) hk (.goto 4) 3 rfl rfl rfl rfl rfl ?_
      cases hx
      obtain rfl := hM
      exact ev_retZ true rfl hk rfl rfl
def qM_goOnRead_0 (S : Nat) (xs : Nat → Int32) (I : zI) (C : zC) (Y : Nat → Int32) (Γ : Nat → zG) (D : zD) (O : Nat → Int32) (ou : Nat → Int64) (od : Nat → UInt64) (j : Nat) (y : (Option Value ⊕ String) × px_H) (s : zM) : Prop := Ev S xs 58 0 [some (.ref 247), none, none] [] (zH I C Y Γ D O s ou od j) y
def qM_goOnRead_76 (S : Nat) (xs : Nat → Int32) (I : zI) (C : zC) (Y : Nat → Int32) (Γ : Nat → zG) (D : zD) (O : Nat → Int32) (ou : Nat → Int64) (od : Nat → UInt64) (j : Nat) (y : (Option Value ⊕ String) × px_H) (s : zM × Int32) : Prop := ∀ (u1 : Option Value) (hu1 : px_cz u1 = true), Ev S xs 58 76 [some (.ref 247), u1, some (.int s.2)] [] (zH I C Y Γ D O s.1 ou od j) y
def qM_goOnRead_146 (S : Nat) (xs : Nat → Int32) (I : zI) (C : zC) (Y : Nat → Int32) (Γ : Nat → zG) (D : zD) (O : Nat → Int32) (ou : Nat → Int64) (od : Nat → UInt64) (j : Nat) (y : (Option Value ⊕ String) × px_H) (s : zM × Int32) : Prop := ∀ (u1 : Option Value) (hu1 : px_cz u1 = true), Ev S xs 58 146 [some (.ref 247), u1, some (.int s.2)] [] (zH I C Y Γ D O s.1 ou od j) y
set_option maxRecDepth 4000 in
theorem rM_goOnRead_j20 {S : Nat} {xs : Nat → Int32} {I : zI} {C : zC} {Y : Nat → Int32} {Γ : Nat → zG} {D : zD} {O : Nat → Int32} {M : zM} {ou : Nat → Int64} {od : Nat → UInt64} {j : Nat}  {y : (Option Value ⊕ String) × px_H} {x : (zM) ⊕ (zM)}  (hx : fM_goOnRead_j20 M = some x) (hM : (Sum.elim (qM_goOnRead_0 S xs I C Y Γ D O ou od j y) (fun X : zM => y = (((.inl none), (zH I C Y Γ D O X ou od j)) : (Option Value ⊕ String) × px_H))) x)  : Ev S xs 58 20 [some (.ref 247), none, none] [] (zH I C Y Γ D O M ou od j) y := by
  have hk : pt_mt[58]? = some pt_r58 := rfl
  unfold fM_goOnRead_j20 at hx
  refine ev_ls (L' := [some (.ref 247), none, none]) (st' := [.ref 247]) (pc' := 21) hk (.aload_n 0) 1 rfl rfl rfl rfl ?_
  refine ev_op (st' := [.ref 247, .ref 247]) (pc' := 22) hk (.dup) 1 rfl rfl rfl ?_
  refine ev_gf (.int (mF M 4)) 25 hk rfl rfl lk_model rfl rfl ?_
  refine ev_op (st' := [.int 1, .int (mF M 4), .ref 247]) (pc' := 26) hk (.iconst 1) 1 rfl rfl rfl ?_
  refine ev_op (st' := [.int ((mF M 4) + 1), .ref 247]) (pc' := 27) hk (.iadd) 1 rfl rfl rfl ?_
  obtain ⟨M19, hM19, hx⟩ := bnd_some hx
  have hM19 := Option.some.inj hM19
  refine ev_pf 30 hk rfl rfl lk_model rfl rfl rfl (sf_8_4 hM19) rfl ?_
  refine ev_jp (pc' := 0) (st' := []) hk (.goto (-30)) 3 rfl rfl rfl rfl rfl ?_
  cases hx
  exact hM
set_option maxRecDepth 4000 in
theorem rM_goOnRead_j239 {S : Nat} {xs : Nat → Int32} {I : zI} {C : zC} {Y : Nat → Int32} {Γ : Nat → zG} {D : zD} {O : Nat → Int32} {M : zM} {ou : Nat → Int64} {od : Nat → UInt64} {j : Nat} {a2 : Int32} {y : (Option Value ⊕ String) × px_H} {x : zM}  (hx : fM_goOnRead_j239 M a2 = some x) (hM : (fun X : zM => y = (((.inl none), (zH I C Y Γ D O X ou od j)) : (Option Value ⊕ String) × px_H)) x) (u1 : Option Value) (hu1 : px_cz u1 = true) : Ev S xs 58 239 [some (.ref 247), u1, some (.int a2)] [] (zH I C Y Γ D O M ou od j) y := by
  have hk : pt_mt[58]? = some pt_r58 := rfl
  unfold fM_goOnRead_j239 at hx
  refine ev_ls (L' := [some (.ref 247), u1, some (.int a2)]) (st' := [.ref 247]) (pc' := 240) hk (.aload_n 0) 1 rfl rfl rfl rfl ?_
  refine ev_op (st' := [.ref 247, .ref 247]) (pc' := 241) hk (.dup) 1 rfl rfl rfl ?_
  refine ev_gf (.int (mF M 4)) 244 hk rfl rfl lk_model rfl rfl ?_
  refine ev_ls (L' := [some (.ref 247), u1, some (.int a2)]) (st' := [.int a2, .int (mF M 4), .ref 247]) (pc' := 245) hk (.iload_n 2) 1 rfl rfl rfl rfl ?_
  refine ev_op (st' := [.int ((mF M 4) + a2), .ref 247]) (pc' := 246) hk (.iadd) 1 rfl rfl rfl ?_
  obtain ⟨M24, hM24, hx⟩ := bnd_some hx
  have hM24 := Option.some.inj hM24
  refine ev_pf 249 hk rfl rfl lk_model rfl rfl rfl (sf_8_4 hM24) rfl ?_
  cases hx
  obtain rfl := hM
  exact ev_retv hk rfl rfl
set_option maxRecDepth 4000 in
theorem rM_goOnRead_j229 {S : Nat} {xs : Nat → Int32} {I : zI} {C : zC} {Y : Nat → Int32} {Γ : Nat → zG} {D : zD} {O : Nat → Int32} {M : zM} {ou : Nat → Int64} {od : Nat → UInt64} {j : Nat} {a1 : Int32} {a0t : Int32} {y : (Option Value ⊕ String) × px_H} {x : zM}  (hx : fM_goOnRead_j229 M a1 a0t = some x) (hM : (fun X : zM => y = (((.inl none), (zH I C Y Γ D O X ou od j)) : (Option Value ⊕ String) × px_H)) x) (u2 : Option Value) (hu2 : px_cz u2 = true) : Ev S xs 58 229 [some (.ref 247), some (.int a1), u2] [.int a0t, .ref 247] (zH I C Y Γ D O M ou od j) y := by
  have hk : pt_mt[58]? = some pt_r58 := rfl
  unfold fM_goOnRead_j229 at hx
  obtain ⟨M22, hM22, hx⟩ := bnd_some hx
  have hM22 := Option.some.inj hM22
  refine ev_pf 232 hk rfl rfl lk_model rfl rfl rfl (sf_8_6 hM22) rfl ?_
  refine ev_ls (L' := [some (.ref 247), some (.int a1), u2]) (st' := [.ref 247]) (pc' := 233) hk (.aload_n 0) 1 rfl rfl rfl rfl ?_
  refine ev_ls (L' := [some (.ref 247), some (.int a1), u2]) (st' := [.int a1, .ref 247]) (pc' := 234) hk (.iload_n 1) 1 rfl rfl rfl rfl ?_
  obtain ⟨M23, hM23, hx⟩ := bnd_some hx
  have hM23 := Option.some.inj hM23
  refine ev_pf 237 hk rfl rfl lk_model rfl rfl rfl (sf_8_7 hM23) rfl ?_
  refine ev_op (st' := [.int 1]) (pc' := 238) hk (.iconst 1) 1 rfl rfl rfl ?_
  refine ev_ls (L' := [some (.ref 247), some (.int a1), some (.int 1)]) (st' := []) (pc' := 239) hk (.istore_n 2) 1 rfl rfl rfl rfl ?_
  exact rM_goOnRead_j239 hx hM (some (.int a1)) rfl
set_option maxRecDepth 4000 in
theorem rM_goOnRead_j224 {S : Nat} {xs : Nat → Int32} {I : zI} {C : zC} {Y : Nat → Int32} {Γ : Nat → zG} {D : zD} {O : Nat → Int32} {M : zM} {ou : Nat → Int64} {od : Nat → UInt64} {j : Nat} {a1 : Int32} {y : (Option Value ⊕ String) × px_H} {x : zM}  (hx : fM_goOnRead_j224 M a1 = some x) (hM : (fun X : zM => y = (((.inl none), (zH I C Y Γ D O X ou od j)) : (Option Value ⊕ String) × px_H)) x) (u2 : Option Value) (hu2 : px_cz u2 = true) : Ev S xs 58 224 [some (.ref 247), some (.int a1), u2] [.ref 247] (zH I C Y Γ D O M ou od j) y := by
  have hk : pt_mt[58]? = some pt_r58 := rfl
  unfold fM_goOnRead_j224 at hx
  refine ev_op (st' := [.int 3, .ref 247]) (pc' := 225) hk (.iconst 3) 1 rfl rfl rfl ?_
  refine ev_jp (pc' := 229) (st' := [.int 3, .ref 247]) hk (.goto 4) 3 rfl rfl rfl rfl rfl ?_
  exact rM_goOnRead_j229 hx hM u2 hu2
set_option maxRecDepth 4000 in
theorem rM_goOnRead_j133 {S : Nat} {xs : Nat → Int32} {I : zI} {C : zC} {Y : Nat → Int32} {Γ : Nat → zG} {D : zD} {O : Nat → Int32} {M : zM} {ou : Nat → Int64} {od : Nat → UInt64} {j : Nat} {a2 : Int32} {a0t : Int32} {y : (Option Value ⊕ String) × px_H} {x : zM}  (hx : fM_goOnRead_j133 M a2 a0t = some x) (hM : (fun X : zM => y = (((.inl none), (zH I C Y Γ D O X ou od j)) : (Option Value ⊕ String) × px_H)) x) (u1 : Option Value) (hu1 : px_cz u1 = true) : Ev S xs 58 133 [some (.ref 247), u1, some (.int a2)] [.int a0t, .ref 247] (zH I C Y Γ D O M ou od j) y := by
  have hk : pt_mt[58]? = some pt_r58 := rfl
  unfold fM_goOnRead_j133 at hx
  obtain ⟨M20, hM20, hx⟩ := bnd_some hx
  have hM20 := Option.some.inj hM20
  refine ev_pf 136 hk rfl rfl lk_model rfl rfl rfl (sf_8_6 hM20) rfl ?_
  refine ev_jp (pc' := 239) (st' := []) hk (.goto 103) 3 rfl rfl rfl rfl rfl ?_
  exact rM_goOnRead_j239 hx hM u1 hu1
set_option maxRecDepth 4000 in
theorem rM_goOnRead_b76 {S : Nat} {xs : Nat → Int32} {I : zI} {C : zC} {Y : Nat → Int32} {Γ : Nat → zG} {D : zD} {O : Nat → Int32} {ou : Nat → Int64} {od : Nat → UInt64} {j : Nat}  {y : (Option Value ⊕ String) × px_H} {s : zM × Int32} {x : (zM × Int32) ⊕ (zM)}  (hx : fM_goOnRead_b76 s.1 s.2 = some x) (hM : (Sum.elim (qM_goOnRead_76 S xs I C Y Γ D O ou od j y) (fun X : zM => y = (((.inl none), (zH I C Y Γ D O X ou od j)) : (Option Value ⊕ String) × px_H))) x) : qM_goOnRead_76 S xs I C Y Γ D O ou od j y s := by
  obtain ⟨M, a2⟩ := s
  intro u1 hu1
  have hk : pt_mt[58]? = some pt_r58 := rfl
  unfold fM_goOnRead_b76 at hx
  try dsimp only at hx
  refine ev_ls (L' := [some (.ref 247), u1, some (.int a2)]) (st' := [.ref 247]) (pc' := 77) hk (.aload_n 0) 1 rfl rfl rfl rfl ?_
  refine ev_ls (L' := [some (.ref 247), u1, some (.int a2)]) (st' := [.int a2, .ref 247]) (pc' := 78) hk (.iload_n 2) 1 rfl rfl rfl rfl ?_
  obtain ⟨v35, hc36, hx⟩ := bnd_some hx
  refine ev_cv 71 1 [.int v35] 81 hk rfl rfl rfl rfl lk_model rfl rfl rfl (rM_here hc36) rfl rfl rfl rfl ?_
  refine ev_cs 89 1 [.int (b2i (fM_isLetter v35))] 84 hk rfl rfl (by decide) rfl rfl rfl (rM_isLetter rfl) rfl rfl rfl rfl ?_
  refine ev_d1 121 87 hk rfl rfl rfl rfl (px_beq hx (fun hc hx => ?_) (fun hc hx => ?_))
  · refine ev_ls (L' := [some (.ref 247), u1, some (.int a2)]) (st' := [.ref 247]) (pc' := 122) hk (.aload_n 0) 1 rfl rfl rfl rfl ?_
    refine ev_ls (L' := [some (.ref 247), u1, some (.int a2)]) (st' := [.int a2, .ref 247]) (pc' := 123) hk (.iload_n 2) 1 rfl rfl rfl rfl ?_
    refine ev_op (st' := [.int 8, .int a2, .ref 247]) (pc' := 125) hk (.bipush 8) 2 rfl rfl rfl ?_
    refine ev_d2 132 128 hk rfl rfl rfl rfl (px_cle hx (fun hc hx => ?_) (fun hc hx => ?_))
    · refine ev_op (st' := [.int 1, .ref 247]) (pc' := 133) hk (.iconst 1) 1 rfl rfl rfl ?_
      obtain ⟨X, hx2, hX⟩ := Option.map_eq_some_iff.mp hx
      clear hx; subst hX; have hx := hx2; clear hx2
      exact rM_goOnRead_j133 hx hM u1 hu1
    · refine ev_op (st' := [.int 4, .ref 247]) (pc' := 129) hk (.iconst 4) 1 rfl rfl rfl ?_
      refine ev_jp (pc' := 133) (st' := [.int 4, .ref 247]) hk (.goto 4) 3 rfl rfl rfl rfl rfl ?_
      obtain ⟨X, hx2, hX⟩ := Option.map_eq_some_iff.mp hx
      clear hx; subst hX; have hx := hx2; clear hx2
      exact rM_goOnRead_j133 hx hM u1 hu1
  · refine ev_ls (L' := [some (.ref 247), u1, some (.int a2)]) (st' := [.int a2]) (pc' := 88) hk (.iload_n 2) 1 rfl rfl rfl rfl ?_
    refine ev_op (st' := [.int 8, .int a2]) (pc' := 90) hk (.bipush 8) 2 rfl rfl rfl ?_
    refine ev_d2 115 93 hk rfl rfl rfl rfl (px_cge hx (fun hc hx => ?_) (fun hc hx => ?_))
    · refine ev_ls (L' := [some (.ref 247), u1, some (.int (a2 + 1))]) (st' := []) (pc' := 118) hk (.iinc 2 1) 3 rfl rfl (congrArg (Option.map (fun L => (L, []))) (px_st1_v (i := 1) (L := [some (.ref 247), u1, some (.int a2)]) hu1 rfl rfl rfl)) rfl ?_
      refine ev_jp (pc' := 76) (st' := []) hk (.goto (-42)) 3 rfl rfl rfl rfl rfl ?_
      cases hx
      exact hM u1 hu1
    · refine ev_ls (L' := [some (.ref 247), u1, some (.int a2)]) (st' := [.ref 247]) (pc' := 94) hk (.aload_n 0) 1 rfl rfl rfl rfl ?_
      refine ev_ls (L' := [some (.ref 247), u1, some (.int a2)]) (st' := [.ref 247, .ref 247]) (pc' := 95) hk (.aload_n 0) 1 rfl rfl rfl rfl ?_
      refine ev_gf (.long (mN M)) 98 hk rfl rfl lk_model rfl rfl ?_
      refine ev_op (st' := [.int 5, .long (mN M), .ref 247]) (pc' := 99) hk (.iconst 5) 1 rfl rfl rfl ?_
      refine ev_op (st' := [.long ((mN M) <<< (Int32.toInt64 5 &&& 63)), .ref 247]) (pc' := 100) hk (.lshl) 1 rfl rfl rfl ?_
      refine ev_ls (L' := [some (.ref 247), u1, some (.int a2)]) (st' := [.ref 247, .long ((mN M) <<< (Int32.toInt64 5 &&& 63)), .ref 247]) (pc' := 101) hk (.aload_n 0) 1 rfl rfl rfl rfl ?_
      refine ev_ls (L' := [some (.ref 247), u1, some (.int a2)]) (st' := [.int a2, .ref 247, .long ((mN M) <<< (Int32.toInt64 5 &&& 63)), .ref 247]) (pc' := 102) hk (.iload_n 2) 1 rfl rfl rfl rfl ?_
      obtain ⟨v37, hc38, hx⟩ := bnd_some hx
      refine ev_cv 71 1 [.int v37, .long ((mN M) <<< (Int32.toInt64 5 &&& 63)), .ref 247] 105 hk rfl rfl rfl rfl lk_model rfl rfl rfl (rM_here hc38) rfl rfl rfl rfl ?_
      refine ev_op (st' := [.int 97, .int v37, .long ((mN M) <<< (Int32.toInt64 5 &&& 63)), .ref 247]) (pc' := 107) hk (.bipush 97) 2 rfl rfl rfl ?_
      refine ev_op (st' := [.int (v37 - 97), .long ((mN M) <<< (Int32.toInt64 5 &&& 63)), .ref 247]) (pc' := 108) hk (.isub) 1 rfl rfl rfl ?_
      refine ev_op (st' := [.int 1, .int (v37 - 97), .long ((mN M) <<< (Int32.toInt64 5 &&& 63)), .ref 247]) (pc' := 109) hk (.iconst 1) 1 rfl rfl rfl ?_
      refine ev_op (st' := [.int ((v37 - 97) + 1), .long ((mN M) <<< (Int32.toInt64 5 &&& 63)), .ref 247]) (pc' := 110) hk (.iadd) 1 rfl rfl rfl ?_
      refine ev_op (st' := [.long (Int32.toInt64 ((v37 - 97) + 1)), .long ((mN M) <<< (Int32.toInt64 5 &&& 63)), .ref 247]) (pc' := 111) hk (.i2l) 1 rfl rfl rfl ?_
      refine ev_op (st' := [.long (((mN M) <<< (Int32.toInt64 5 &&& 63)) ||| (Int32.toInt64 ((v37 - 97) + 1))), .ref 247]) (pc' := 112) hk (.lor) 1 rfl rfl rfl ?_
      obtain ⟨M39, hM39, hx⟩ := bnd_some hx
      have hM39 := Option.some.inj hM39
      refine ev_pf 115 hk rfl rfl lk_model rfl rfl rfl (sf_8_12 hM39) rfl ?_
      refine ev_ls (L' := [some (.ref 247), u1, some (.int (a2 + 1))]) (st' := []) (pc' := 118) hk (.iinc 2 1) 3 rfl rfl (congrArg (Option.map (fun L => (L, []))) (px_st1_v (i := 1) (L := [some (.ref 247), u1, some (.int a2)]) hu1 rfl rfl rfl)) rfl ?_
      refine ev_jp (pc' := 76) (st' := []) hk (.goto (-42)) 3 rfl rfl rfl rfl rfl ?_
      cases hx
      exact hM u1 hu1
set_option maxRecDepth 4000 in
theorem rM_goOnRead_j199 {S : Nat} {xs : Nat → Int32} {I : zI} {C : zC} {Y : Nat → Int32} {Γ : Nat → zG} {D : zD} {O : Nat → Int32} {M : zM} {ou : Nat → Int64} {od : Nat → UInt64} {j : Nat} {a2 : Int32} {a0t : Int32} {y : (Option Value ⊕ String) × px_H} {x : zM}  (hx : fM_goOnRead_j199 M a2 a0t = some x) (hM : (fun X : zM => y = (((.inl none), (zH I C Y Γ D O X ou od j)) : (Option Value ⊕ String) × px_H)) x) (u1 : Option Value) (hu1 : px_cz u1 = true) : Ev S xs 58 199 [some (.ref 247), u1, some (.int a2)] [.int a0t, .ref 247] (zH I C Y Γ D O M ou od j) y := by
  have hk : pt_mt[58]? = some pt_r58 := rfl
  unfold fM_goOnRead_j199 at hx
  obtain ⟨M21, hM21, hx⟩ := bnd_some hx
  have hM21 := Option.some.inj hM21
  refine ev_pf 202 hk rfl rfl lk_model rfl rfl rfl (sf_8_6 hM21) rfl ?_
  refine ev_jp (pc' := 239) (st' := []) hk (.goto 37) 3 rfl rfl rfl rfl rfl ?_
  exact rM_goOnRead_j239 hx hM u1 hu1
set_option maxRecDepth 4000 in
theorem rM_goOnRead_b146 {S : Nat} {xs : Nat → Int32} {I : zI} {C : zC} {Y : Nat → Int32} {Γ : Nat → zG} {D : zD} {O : Nat → Int32} {ou : Nat → Int64} {od : Nat → UInt64} {j : Nat}  {y : (Option Value ⊕ String) × px_H} {s : zM × Int32} {x : (zM × Int32) ⊕ (zM)}  (hx : fM_goOnRead_b146 s.1 s.2 = some x) (hM : (Sum.elim (qM_goOnRead_146 S xs I C Y Γ D O ou od j y) (fun X : zM => y = (((.inl none), (zH I C Y Γ D O X ou od j)) : (Option Value ⊕ String) × px_H))) x) : qM_goOnRead_146 S xs I C Y Γ D O ou od j y s := by
  obtain ⟨M, a2⟩ := s
  intro u1 hu1
  have hk : pt_mt[58]? = some pt_r58 := rfl
  unfold fM_goOnRead_b146 at hx
  try dsimp only at hx
  refine ev_ls (L' := [some (.ref 247), u1, some (.int a2)]) (st' := [.ref 247]) (pc' := 147) hk (.aload_n 0) 1 rfl rfl rfl rfl ?_
  refine ev_ls (L' := [some (.ref 247), u1, some (.int a2)]) (st' := [.int a2, .ref 247]) (pc' := 148) hk (.iload_n 2) 1 rfl rfl rfl rfl ?_
  obtain ⟨v40, hc41, hx⟩ := bnd_some hx
  refine ev_cv 71 1 [.int v40] 151 hk rfl rfl rfl rfl lk_model rfl rfl rfl (rM_here hc41) rfl rfl rfl rfl ?_
  refine ev_cs 80 1 [.int (b2i (fM_isDigit v40))] 154 hk rfl rfl (by decide) rfl rfl rfl (rM_isDigit rfl) rfl rfl rfl rfl ?_
  refine ev_d1 188 157 hk rfl rfl rfl rfl (px_beq hx (fun hc hx => ?_) (fun hc hx => ?_))
  · refine ev_ls (L' := [some (.ref 247), u1, some (.int a2)]) (st' := [.ref 247]) (pc' := 189) hk (.aload_n 0) 1 rfl rfl rfl rfl ?_
    refine ev_ls (L' := [some (.ref 247), u1, some (.int a2)]) (st' := [.int a2, .ref 247]) (pc' := 190) hk (.iload_n 2) 1 rfl rfl rfl rfl ?_
    refine ev_op (st' := [.int 4, .int a2, .ref 247]) (pc' := 191) hk (.iconst 4) 1 rfl rfl rfl ?_
    refine ev_d2 198 194 hk rfl rfl rfl rfl (px_cle hx (fun hc hx => ?_) (fun hc hx => ?_))
    · refine ev_op (st' := [.int 2, .ref 247]) (pc' := 199) hk (.iconst 2) 1 rfl rfl rfl ?_
      obtain ⟨X, hx2, hX⟩ := Option.map_eq_some_iff.mp hx
      clear hx; subst hX; have hx := hx2; clear hx2
      exact rM_goOnRead_j199 hx hM u1 hu1
    · refine ev_op (st' := [.int 4, .ref 247]) (pc' := 195) hk (.iconst 4) 1 rfl rfl rfl ?_
      refine ev_jp (pc' := 199) (st' := [.int 4, .ref 247]) hk (.goto 4) 3 rfl rfl rfl rfl rfl ?_
      obtain ⟨X, hx2, hX⟩ := Option.map_eq_some_iff.mp hx
      clear hx; subst hX; have hx := hx2; clear hx2
      exact rM_goOnRead_j199 hx hM u1 hu1
  · refine ev_ls (L' := [some (.ref 247), u1, some (.int a2)]) (st' := [.int a2]) (pc' := 158) hk (.iload_n 2) 1 rfl rfl rfl rfl ?_
    refine ev_op (st' := [.int 4, .int a2]) (pc' := 159) hk (.iconst 4) 1 rfl rfl rfl ?_
    refine ev_d2 182 162 hk rfl rfl rfl rfl (px_cge hx (fun hc hx => ?_) (fun hc hx => ?_))
    · refine ev_ls (L' := [some (.ref 247), u1, some (.int (a2 + 1))]) (st' := []) (pc' := 185) hk (.iinc 2 1) 3 rfl rfl (congrArg (Option.map (fun L => (L, []))) (px_st1_v (i := 1) (L := [some (.ref 247), u1, some (.int a2)]) hu1 rfl rfl rfl)) rfl ?_
      refine ev_jp (pc' := 146) (st' := []) hk (.goto (-39)) 3 rfl rfl rfl rfl rfl ?_
      cases hx
      exact hM u1 hu1
    · refine ev_ls (L' := [some (.ref 247), u1, some (.int a2)]) (st' := [.ref 247]) (pc' := 163) hk (.aload_n 0) 1 rfl rfl rfl rfl ?_
      refine ev_op (st' := [.int 10, .ref 247]) (pc' := 165) hk (.bipush 10) 2 rfl rfl rfl ?_
      refine ev_ls (L' := [some (.ref 247), u1, some (.int a2)]) (st' := [.ref 247, .int 10, .ref 247]) (pc' := 166) hk (.aload_n 0) 1 rfl rfl rfl rfl ?_
      refine ev_gf (.int (mF M 7)) 169 hk rfl rfl lk_model rfl rfl ?_
      refine ev_op (st' := [.int (10 * (mF M 7)), .ref 247]) (pc' := 170) hk (.imul) 1 rfl rfl rfl ?_
      refine ev_ls (L' := [some (.ref 247), u1, some (.int a2)]) (st' := [.ref 247, .int (10 * (mF M 7)), .ref 247]) (pc' := 171) hk (.aload_n 0) 1 rfl rfl rfl rfl ?_
      refine ev_ls (L' := [some (.ref 247), u1, some (.int a2)]) (st' := [.int a2, .ref 247, .int (10 * (mF M 7)), .ref 247]) (pc' := 172) hk (.iload_n 2) 1 rfl rfl rfl rfl ?_
      obtain ⟨v42, hc43, hx⟩ := bnd_some hx
      refine ev_cv 71 1 [.int v42, .int (10 * (mF M 7)), .ref 247] 175 hk rfl rfl rfl rfl lk_model rfl rfl rfl (rM_here hc43) rfl rfl rfl rfl ?_
      refine ev_op (st' := [.int ((10 * (mF M 7)) + v42), .ref 247]) (pc' := 176) hk (.iadd) 1 rfl rfl rfl ?_
      refine ev_op (st' := [.int 48, .int ((10 * (mF M 7)) + v42), .ref 247]) (pc' := 178) hk (.bipush 48) 2 rfl rfl rfl ?_
      refine ev_op (st' := [.int (((10 * (mF M 7)) + v42) - 48), .ref 247]) (pc' := 179) hk (.isub) 1 rfl rfl rfl ?_
      obtain ⟨M44, hM44, hx⟩ := bnd_some hx
      have hM44 := Option.some.inj hM44
      refine ev_pf 182 hk rfl rfl lk_model rfl rfl rfl (sf_8_7 hM44) rfl ?_
      refine ev_ls (L' := [some (.ref 247), u1, some (.int (a2 + 1))]) (st' := []) (pc' := 185) hk (.iinc 2 1) 3 rfl rfl (congrArg (Option.map (fun L => (L, []))) (px_st1_v (i := 1) (L := [some (.ref 247), u1, some (.int a2)]) hu1 rfl rfl rfl)) rfl ?_
      refine ev_jp (pc' := 146) (st' := []) hk (.goto (-39)) 3 rfl rfl rfl rfl rfl ?_
      cases hx
      exact hM u1 hu1
set_option maxRecDepth 4000 in
theorem rM_goOnRead_b0 {S : Nat} {xs : Nat → Int32} {I : zI} {C : zC} {Y : Nat → Int32} {Γ : Nat → zG} {D : zD} {O : Nat → Int32} {ou : Nat → Int64} {od : Nat → UInt64} {j : Nat}  {y : (Option Value ⊕ String) × px_H} {s : zM} {x : (zM) ⊕ (zM)}  (hx : fM_goOnRead_b0 s = some x) (hM : (Sum.elim (qM_goOnRead_0 S xs I C Y Γ D O ou od j y) (fun X : zM => y = (((.inl none), (zH I C Y Γ D O X ou od j)) : (Option Value ⊕ String) × px_H))) x) : qM_goOnRead_0 S xs I C Y Γ D O ou od j y s := by
  revert hx
  generalize s = M
  intro hx
  have hk : pt_mt[58]? = some pt_r58 := rfl
  unfold fM_goOnRead_b0 at hx
  try dsimp only at hx
  refine ev_ls (L' := [some (.ref 247), none, none]) (st' := [.ref 247]) (pc' := 1) hk (.aload_n 0) 1 rfl rfl rfl rfl ?_
  refine ev_op (st' := [.int 0, .ref 247]) (pc' := 2) hk (.iconst 0) 1 rfl rfl rfl ?_
  obtain ⟨v25, hc26, hx⟩ := bnd_some hx
  refine ev_cv 71 1 [.int v25] 5 hk rfl rfl rfl rfl lk_model rfl rfl rfl (rM_here hc26) rfl rfl rfl rfl ?_
  refine ev_op (st' := [.int 32, .int v25]) (pc' := 7) hk (.bipush 32) 2 rfl rfl rfl ?_
  refine ev_d2 20 10 hk rfl rfl rfl rfl (px_ceq hx (fun hc hx => ?_) (fun hc hx => ?_))
  · exact rM_goOnRead_j20 hx hM 
  · refine ev_ls (L' := [some (.ref 247), none, none]) (st' := [.ref 247]) (pc' := 11) hk (.aload_n 0) 1 rfl rfl rfl rfl ?_
    refine ev_op (st' := [.int 0, .ref 247]) (pc' := 12) hk (.iconst 0) 1 rfl rfl rfl ?_
    obtain ⟨v27, hc28, hx⟩ := bnd_some hx
    refine ev_cv 71 1 [.int v27] 15 hk rfl rfl rfl rfl lk_model rfl rfl rfl (rM_here hc28) rfl rfl rfl rfl ?_
    refine ev_op (st' := [.int 10, .int v27]) (pc' := 17) hk (.bipush 10) 2 rfl rfl rfl ?_
    refine ev_d2 33 20 hk rfl rfl rfl rfl (px_cne hx (fun hc hx => ?_) (fun hc hx => ?_))
    · refine ev_ls (L' := [some (.ref 247), none, none]) (st' := [.ref 247]) (pc' := 34) hk (.aload_n 0) 1 rfl rfl rfl rfl ?_
      refine ev_ls (L' := [some (.ref 247), none, none]) (st' := [.ref 247, .ref 247]) (pc' := 35) hk (.aload_n 0) 1 rfl rfl rfl rfl ?_
      refine ev_gf (.int (mF M 4)) 38 hk rfl rfl lk_model rfl rfl ?_
      obtain ⟨M29, hM29, hx⟩ := bnd_some hx
      have hM29 := Option.some.inj hM29
      refine ev_pf 41 hk rfl rfl lk_model rfl rfl rfl (sf_8_5 hM29) rfl ?_
      refine ev_ls (L' := [some (.ref 247), none, none]) (st' := [.ref 247]) (pc' := 42) hk (.aload_n 0) 1 rfl rfl rfl rfl ?_
      refine ev_op (st' := [.long 0, .ref 247]) (pc' := 43) hk (.lconst 0) 1 rfl rfl rfl ?_
      obtain ⟨M30, hM30, hx⟩ := bnd_some hx
      have hM30 := Option.some.inj hM30
      refine ev_pf 46 hk rfl rfl lk_model rfl rfl rfl (sf_8_12 hM30) rfl ?_
      refine ev_ls (L' := [some (.ref 247), none, none]) (st' := [.ref 247]) (pc' := 47) hk (.aload_n 0) 1 rfl rfl rfl rfl ?_
      refine ev_op (st' := [.int 0, .ref 247]) (pc' := 48) hk (.iconst 0) 1 rfl rfl rfl ?_
      obtain ⟨M31, hM31, hx⟩ := bnd_some hx
      have hM31 := Option.some.inj hM31
      refine ev_pf 51 hk rfl rfl lk_model rfl rfl rfl (sf_8_7 hM31) rfl ?_
      refine ev_ls (L' := [some (.ref 247), none, none]) (st' := [.ref 247]) (pc' := 52) hk (.aload_n 0) 1 rfl rfl rfl rfl ?_
      refine ev_op (st' := [.int 0, .ref 247]) (pc' := 53) hk (.iconst 0) 1 rfl rfl rfl ?_
      obtain ⟨v32, hc33, hx⟩ := bnd_some hx
      refine ev_cv 71 1 [.int v32] 56 hk rfl rfl rfl rfl lk_model rfl rfl rfl (rM_here hc33) rfl rfl rfl rfl ?_
      refine ev_ls (L' := [some (.ref 247), some (.int v32), none]) (st' := []) (pc' := 57) hk (.istore_n 1) 1 rfl rfl rfl rfl ?_
      refine ev_op (st' := [.int 0]) (pc' := 58) hk (.iconst 0) 1 rfl rfl rfl ?_
      refine ev_ls (L' := [some (.ref 247), some (.int v32), some (.int 0)]) (st' := []) (pc' := 59) hk (.istore_n 2) 1 rfl rfl rfl rfl ?_
      refine ev_ls (L' := [some (.ref 247), some (.int v32), some (.int 0)]) (st' := [.int v32]) (pc' := 60) hk (.iload_n 1) 1 rfl rfl rfl rfl ?_
      refine ev_d1 69 63 hk rfl rfl rfl rfl (px_cge hx (fun hc hx => ?_) (fun hc hx => ?_))
      · refine ev_ls (L' := [some (.ref 247), some (.int v32), some (.int 0)]) (st' := [.int v32]) (pc' := 70) hk (.iload_n 1) 1 rfl rfl rfl rfl ?_
        refine ev_cs 89 1 [.int (b2i (fM_isLetter v32))] 73 hk rfl rfl (by decide) rfl rfl rfl (rM_isLetter rfl) rfl rfl rfl rfl ?_
        refine ev_d1 139 76 hk rfl rfl rfl rfl (px_beq hx (fun hc hx => ?_) (fun hc hx => ?_))
        · refine ev_ls (L' := [some (.ref 247), some (.int v32), some (.int 0)]) (st' := [.int v32]) (pc' := 140) hk (.iload_n 1) 1 rfl rfl rfl rfl ?_
          refine ev_cs 80 1 [.int (b2i (fM_isDigit v32))] 143 hk rfl rfl (by decide) rfl rfl rfl (rM_isDigit rfl) rfl rfl rfl rfl ?_
          refine ev_d1 205 146 hk rfl rfl rfl rfl (px_beq hx (fun hc hx => ?_) (fun hc hx => ?_))
          · refine ev_ls (L' := [some (.ref 247), some (.int v32), some (.int 0)]) (st' := [.ref 247]) (pc' := 206) hk (.aload_n 0) 1 rfl rfl rfl rfl ?_
            refine ev_ls (L' := [some (.ref 247), some (.int v32), some (.int 0)]) (st' := [.int v32, .ref 247]) (pc' := 207) hk (.iload_n 1) 1 rfl rfl rfl rfl ?_
            refine ev_op (st' := [.int 59, .int v32, .ref 247]) (pc' := 209) hk (.bipush 59) 2 rfl rfl rfl ?_
            refine ev_d2 224 212 hk rfl rfl rfl rfl (px_ceq hx (fun hc hx => ?_) (fun hc hx => ?_))
            · obtain ⟨X, hx2, hX⟩ := Option.map_eq_some_iff.mp hx
              clear hx; subst hX; have hx := hx2; clear hx2
              exact rM_goOnRead_j224 hx hM (some (.int 0)) rfl
            · refine ev_ls (L' := [some (.ref 247), some (.int v32), some (.int 0)]) (st' := [.int v32, .ref 247]) (pc' := 213) hk (.iload_n 1) 1 rfl rfl rfl rfl ?_
              refine ev_op (st' := [.int 40, .int v32, .ref 247]) (pc' := 215) hk (.bipush 40) 2 rfl rfl rfl ?_
              refine ev_d2 224 218 hk rfl rfl rfl rfl (px_ceq hx (fun hc hx => ?_) (fun hc hx => ?_))
              · obtain ⟨X, hx2, hX⟩ := Option.map_eq_some_iff.mp hx
                clear hx; subst hX; have hx := hx2; clear hx2
                exact rM_goOnRead_j224 hx hM (some (.int 0)) rfl
              · refine ev_ls (L' := [some (.ref 247), some (.int v32), some (.int 0)]) (st' := [.int v32, .ref 247]) (pc' := 219) hk (.iload_n 1) 1 rfl rfl rfl rfl ?_
                refine ev_op (st' := [.int 41, .int v32, .ref 247]) (pc' := 221) hk (.bipush 41) 2 rfl rfl rfl ?_
                refine ev_d2 228 224 hk rfl rfl rfl rfl (px_cne hx (fun hc hx => ?_) (fun hc hx => ?_))
                · refine ev_op (st' := [.int 4, .ref 247]) (pc' := 229) hk (.iconst 4) 1 rfl rfl rfl ?_
                  obtain ⟨X, hx2, hX⟩ := Option.map_eq_some_iff.mp hx
                  clear hx; subst hX; have hx := hx2; clear hx2
                  exact rM_goOnRead_j229 hx hM (some (.int 0)) rfl
                · obtain ⟨X, hx2, hX⟩ := Option.map_eq_some_iff.mp hx
                  clear hx; subst hX; have hx := hx2; clear hx2
                  exact rM_goOnRead_j224 hx hM (some (.int 0)) rfl
          · obtain ⟨X, hx2, hX⟩ := Option.map_eq_some_iff.mp hx
            clear hx; subst hX; have hx := hx2; clear hx2
            exact ev_iter (qM_goOnRead_146 S xs I C Y Γ D O ou od j _) (fun X : zM => y = (((.inl none), (zH I C Y Γ D O X ou od j)) : (Option Value ⊕ String) × px_H)) (fun s x hb hM => rM_goOnRead_b146 hb hM) fu _ _ hx hM (some (.int v32)) rfl
        · obtain ⟨X, hx2, hX⟩ := Option.map_eq_some_iff.mp hx
          clear hx; subst hX; have hx := hx2; clear hx2
          exact ev_iter (qM_goOnRead_76 S xs I C Y Γ D O ou od j _) (fun X : zM => y = (((.inl none), (zH I C Y Γ D O X ou od j)) : (Option Value ⊕ String) × px_H)) (fun s x hb hM => rM_goOnRead_b76 hb hM) fu _ _ hx hM (some (.int v32)) rfl
      · refine ev_ls (L' := [some (.ref 247), some (.int v32), some (.int 0)]) (st' := [.ref 247]) (pc' := 64) hk (.aload_n 0) 1 rfl rfl rfl rfl ?_
        refine ev_op (st' := [.int 0, .ref 247]) (pc' := 65) hk (.iconst 0) 1 rfl rfl rfl ?_
        obtain ⟨M34, hM34, hx⟩ := bnd_some hx
        have hM34 := Option.some.inj hM34
        refine ev_pf 68 hk rfl rfl lk_model rfl rfl rfl (sf_8_6 hM34) rfl ?_
        cases hx
        obtain rfl := hM
        exact ev_retv hk rfl rfl
    · exact rM_goOnRead_j20 hx hM 
set_option maxRecDepth 2000 in
theorem rM_goOnRead {S : Nat} {xs : Nat → Int32} {I : zI} {C : zC} {Y : Nat → Int32} {Γ : Nat → zG} {D : zD} {O : Nat → Int32} {M : zM} {ou : Nat → Int64} {od : Nat → UInt64} {j : Nat}  {X : zM}   (hx : fM_goOnRead M = some X) : Ev S xs 58 0 [some (.ref 247), none, none] [] (zH I C Y Γ D O M ou od j) (((.inl none), (zH I C Y Γ D O X ou od j)) : (Option Value ⊕ String) × px_H) := by
  generalize hM : (((.inl none), (zH I C Y Γ D O X ou od j)) : (Option Value ⊕ String) × px_H) = y
  replace hM := hM.symm
  have hk : pt_mt[58]? = some pt_r58 := rfl
  unfold fM_goOnRead at hx
  exact ev_iter (qM_goOnRead_0 S xs I C Y Γ D O ou od j _) (fun X : zM => y = (((.inl none), (zH I C Y Γ D O X ou od j)) : (Option Value ⊕ String) × px_H)) (fun s x hb hM => rM_goOnRead_b0 hb hM) fu _ _ hx hM 
set_option maxRecDepth 2000 in
theorem rM_beginsText {S : Nat} {xs : Nat → Int32} {I : zI} {C : zC} {Y : Nat → Int32} {Γ : Nat → zG} {D : zD} {O : Nat → Int32} {M : zM} {ou : Nat → Int64} {od : Nat → UInt64} {j : Nat}  {X : zM}   (hx : fM_beginsText M = some X) : Ev S xs 30 0 [some (.ref 247)] [] (zH I C Y Γ D O M ou od j) (((.inl none), (zH I C Y Γ D O X ou od j)) : (Option Value ⊕ String) × px_H) := by
  generalize hM : (((.inl none), (zH I C Y Γ D O X ou od j)) : (Option Value ⊕ String) × px_H) = y
  replace hM := hM.symm
  have hk : pt_mt[30]? = some pt_r30 := rfl
  unfold fM_beginsText at hx
  refine ev_ls (L' := [some (.ref 247)]) (st' := [.ref 247]) (pc' := 1) hk (.aload_n 0) 1 rfl rfl rfl rfl ?_
  refine ev_ls (L' := [some (.ref 247)]) (st' := [.ref 247, .ref 247]) (pc' := 2) hk (.aload_n 0) 1 rfl rfl rfl rfl ?_
  refine ev_gf (.int (mF M 2)) 5 hk rfl rfl lk_model rfl rfl ?_
  obtain ⟨M6, hM6, hx⟩ := bnd_some hx
  have hM6 := Option.some.inj hM6
  refine ev_pf 8 hk rfl rfl lk_model rfl rfl rfl (sf_8_3 hM6) rfl ?_
  refine ev_ls (L' := [some (.ref 247)]) (st' := [.ref 247]) (pc' := 9) hk (.aload_n 0) 1 rfl rfl rfl rfl ?_
  refine ev_op (st' := [.int 0, .ref 247]) (pc' := 10) hk (.iconst 0) 1 rfl rfl rfl ?_
  obtain ⟨M7, hM7, hx⟩ := bnd_some hx
  have hM7 := Option.some.inj hM7
  refine ev_pf 13 hk rfl rfl lk_model rfl rfl rfl (sf_8_2 hM7) rfl ?_
  refine ev_ls (L' := [some (.ref 247)]) (st' := [.ref 247]) (pc' := 14) hk (.aload_n 0) 1 rfl rfl rfl rfl ?_
  refine ev_op (st' := [.int 0, .ref 247]) (pc' := 15) hk (.iconst 0) 1 rfl rfl rfl ?_
  obtain ⟨M8, hM8, hx⟩ := bnd_some hx
  have hM8 := Option.some.inj hM8
  refine ev_pf 18 hk rfl rfl lk_model rfl rfl rfl (sf_8_4 hM8) rfl ?_
  refine ev_ls (L' := [some (.ref 247)]) (st' := [.ref 247]) (pc' := 19) hk (.aload_n 0) 1 rfl rfl rfl rfl ?_
  refine ev_op (st' := [.int 0, .ref 247]) (pc' := 20) hk (.iconst 0) 1 rfl rfl rfl ?_
  obtain ⟨M9, hM9, hx⟩ := bnd_some hx
  have hM9 := Option.some.inj hM9
  refine ev_pf 23 hk rfl rfl lk_model rfl rfl rfl (sf_8_8 hM9) rfl ?_
  refine ev_ls (L' := [some (.ref 247)]) (st' := [.ref 247]) (pc' := 24) hk (.aload_n 0) 1 rfl rfl rfl rfl ?_
  refine ev_op (st' := [.int (-1), .ref 247]) (pc' := 25) hk (.iconst (-1)) 1 rfl rfl rfl ?_
  obtain ⟨M10, hM10, hx⟩ := bnd_some hx
  have hM10 := Option.some.inj hM10
  refine ev_pf 28 hk rfl rfl lk_model rfl rfl rfl (sf_8_9 hM10) rfl ?_
  refine ev_ls (L' := [some (.ref 247)]) (st' := [.ref 247]) (pc' := 29) hk (.aload_n 0) 1 rfl rfl rfl rfl ?_
  obtain ⟨M11, hc12, hx⟩ := bnd_some hx
  refine ev_cv 58 0 [] 32 hk rfl rfl rfl rfl lk_model rfl rfl rfl (rM_goOnRead hc12) rfl rfl rfl rfl ?_
  cases hx
  obtain rfl := hM
  exact ev_retv hk rfl rfl
set_option maxRecDepth 2000 in
theorem rM_isGood {S : Nat} {xs : Nat → Int32} {I : zI} {C : zC} {Y : Nat → Int32} {Γ : Nat → zG} {D : zD} {O : Nat → Int32} {M : zM} {ou : Nat → Int64} {od : Nat → UInt64} {j : Nat}  {X : Bool}   (hx : fM_isGood M = X) : Ev S xs 84 0 [some (.ref 247)] [] (zH I C Y Γ D O M ou od j) (((.inl (some (.int (b2i X)))), (zH I C Y Γ D O M ou od j)) : (Option Value ⊕ String) × px_H) := by
  generalize hM : (((.inl (some (.int (b2i X)))), (zH I C Y Γ D O M ou od j)) : (Option Value ⊕ String) × px_H) = y
  replace hM := hM.symm
  have hk : pt_mt[84]? = some pt_r84 := rfl
  unfold fM_isGood at hx
  refine ev_ls (L' := [some (.ref 247)]) (st' := [.ref 247]) (pc' := 1) hk (.aload_n 0) 1 rfl rfl rfl rfl ?_
  refine ev_gf (.int (mF M 8)) 4 hk rfl rfl lk_model rfl rfl ?_
  refine ev_d1 11 7 hk rfl rfl rfl rfl (px_cne hx (fun hc hx => ?_) (fun hc hx => ?_))
  · refine ev_op (st' := [.int 0]) (pc' := 12) hk (.iconst 0) 1 rfl rfl rfl ?_
    cases hx
    obtain rfl := hM
    exact ev_retZ false rfl hk rfl rfl
  · refine ev_op (st' := [.int 1]) (pc' := 8) hk (.iconst 1) 1 rfl rfl rfl ?_
    refine ev_jp (pc' := 12) (st' := [.int 1]) hk (.goto 4) 3 rfl rfl rfl rfl rfl ?_
    cases hx
    obtain rfl := hM
    exact ev_retZ true rfl hk rfl rfl
set_option maxRecDepth 2000 in
theorem rM_isWord {S : Nat} {xs : Nat → Int32} {I : zI} {C : zC} {Y : Nat → Int32} {Γ : Nat → zG} {D : zD} {O : Nat → Int32} {M : zM} {ou : Nat → Int64} {od : Nat → UInt64} {j : Nat} {a1 : Int64} {X : Bool}   (hx : fM_isWord M a1 = X) : Ev S xs 102 0 [some (.ref 247), some (.long a1), none] [] (zH I C Y Γ D O M ou od j) (((.inl (some (.int (b2i X)))), (zH I C Y Γ D O M ou od j)) : (Option Value ⊕ String) × px_H) := by
  generalize hM : (((.inl (some (.int (b2i X)))), (zH I C Y Γ D O M ou od j)) : (Option Value ⊕ String) × px_H) = y
  replace hM := hM.symm
  have hk : pt_mt[102]? = some pt_r102 := rfl
  unfold fM_isWord at hx
  refine ev_ls (L' := [some (.ref 247), some (.long a1), none]) (st' := [.ref 247]) (pc' := 1) hk (.aload_n 0) 1 rfl rfl rfl rfl ?_
  refine ev_gf (.int (mF M 8)) 4 hk rfl rfl lk_model rfl rfl ?_
  refine ev_d1 28 7 hk rfl rfl rfl rfl (px_cne hx (fun hc hx => ?_) (fun hc hx => ?_))
  · refine ev_op (st' := [.int 0]) (pc' := 29) hk (.iconst 0) 1 rfl rfl rfl ?_
    cases hx
    obtain rfl := hM
    exact ev_retZ false rfl hk rfl rfl
  · refine ev_ls (L' := [some (.ref 247), some (.long a1), none]) (st' := [.ref 247]) (pc' := 8) hk (.aload_n 0) 1 rfl rfl rfl rfl ?_
    refine ev_gf (.int (mF M 6)) 11 hk rfl rfl lk_model rfl rfl ?_
    refine ev_op (st' := [.int 1, .int (mF M 6)]) (pc' := 12) hk (.iconst 1) 1 rfl rfl rfl ?_
    refine ev_d2 28 15 hk rfl rfl rfl rfl (px_cne hx (fun hc hx => ?_) (fun hc hx => ?_))
    · refine ev_op (st' := [.int 0]) (pc' := 29) hk (.iconst 0) 1 rfl rfl rfl ?_
      cases hx
      obtain rfl := hM
      exact ev_retZ false rfl hk rfl rfl
    · refine ev_ls (L' := [some (.ref 247), some (.long a1), none]) (st' := [.ref 247]) (pc' := 16) hk (.aload_n 0) 1 rfl rfl rfl rfl ?_
      refine ev_gf (.long (mN M)) 19 hk rfl rfl lk_model rfl rfl ?_
      refine ev_ls (L' := [some (.ref 247), some (.long a1), none]) (st' := [.long a1, .long (mN M)]) (pc' := 20) hk (.lload_n 1) 1 rfl rfl rfl rfl ?_
      refine ev_op (st' := [.int (lg_cmp (mN M) a1)]) (pc' := 21) hk (.lcmp) 1 rfl rfl rfl ?_
      refine ev_d1 28 24 hk rfl rfl rfl rfl (px_lne hx (fun hc hx => ?_) (fun hc hx => ?_))
      · refine ev_op (st' := [.int 0]) (pc' := 29) hk (.iconst 0) 1 rfl rfl rfl ?_
        cases hx
        obtain rfl := hM
        exact ev_retZ false rfl hk rfl rfl
      · refine ev_op (st' := [.int 1]) (pc' := 25) hk (.iconst 1) 1 rfl rfl rfl ?_
        refine ev_jp (pc' := 29) (st' := [.int 1]) hk (.goto 4) 3 rfl rfl rfl rfl rfl ?_
        cases hx
        obtain rfl := hM
        exact ev_retZ true rfl hk rfl rfl
set_option maxRecDepth 4000 in
theorem rM_commandHere {S : Nat} {xs : Nat → Int32} {I : zI} {C : zC} {Y : Nat → Int32} {Γ : Nat → zG} {D : zD} {O : Nat → Int32} {M : zM} {ou : Nat → Int64} {od : Nat → UInt64} {j : Nat}  {X : Int32}   (hx : fM_commandHere M = X) : Ev S xs 36 0 [some (.ref 247)] [] (zH I C Y Γ D O M ou od j) (((.inl (some (.int X))), (zH I C Y Γ D O M ou od j)) : (Option Value ⊕ String) × px_H) := by
  generalize hM : (((.inl (some (.int X))), (zH I C Y Γ D O M ou od j)) : (Option Value ⊕ String) × px_H) = y
  replace hM := hM.symm
  have hk : pt_mt[36]? = some pt_r36 := rfl
  unfold fM_commandHere at hx
  refine ev_ls (L' := [some (.ref 247)]) (st' := [.ref 247]) (pc' := 1) hk (.aload_n 0) 1 rfl rfl rfl rfl ?_
  refine ev_ldJ 8365 4 hk rfl rfl rfl ?_
  refine ev_cv 102 1 [.int (b2i (fM_isWord M 8365))] 7 hk rfl rfl rfl rfl lk_model rfl rfl rfl (rM_isWord rfl) rfl rfl rfl rfl ?_
  refine ev_d1 12 10 hk rfl rfl rfl rfl (px_beq hx (fun hc hx => ?_) (fun hc hx => ?_))
  · refine ev_ls (L' := [some (.ref 247)]) (st' := [.ref 247]) (pc' := 13) hk (.aload_n 0) 1 rfl rfl rfl rfl ?_
    refine ev_ldJ 19639 16 hk rfl rfl rfl ?_
    refine ev_cv 102 1 [.int (b2i (fM_isWord M 19639))] 19 hk rfl rfl rfl rfl lk_model rfl rfl rfl (rM_isWord rfl) rfl rfl rfl rfl ?_
    refine ev_d1 24 22 hk rfl rfl rfl rfl (px_beq hx (fun hc hx => ?_) (fun hc hx => ?_))
    · refine ev_ls (L' := [some (.ref 247)]) (st' := [.ref 247]) (pc' := 25) hk (.aload_n 0) 1 rfl rfl rfl rfl ?_
      refine ev_ldJ 643248 28 hk rfl rfl rfl ?_
      refine ev_cv 102 1 [.int (b2i (fM_isWord M 643248))] 31 hk rfl rfl rfl rfl lk_model rfl rfl rfl (rM_isWord rfl) rfl rfl rfl rfl ?_
      refine ev_d1 36 34 hk rfl rfl rfl rfl (px_beq hx (fun hc hx => ?_) (fun hc hx => ?_))
      · refine ev_ls (L' := [some (.ref 247)]) (st' := [.ref 247]) (pc' := 37) hk (.aload_n 0) 1 rfl rfl rfl rfl ?_
        refine ev_ldJ 755083 40 hk rfl rfl rfl ?_
        refine ev_cv 102 1 [.int (b2i (fM_isWord M 755083))] 43 hk rfl rfl rfl rfl lk_model rfl rfl rfl (rM_isWord rfl) rfl rfl rfl rfl ?_
        refine ev_d1 48 46 hk rfl rfl rfl rfl (px_beq hx (fun hc hx => ?_) (fun hc hx => ?_))
        · refine ev_ls (L' := [some (.ref 247)]) (st' := [.ref 247]) (pc' := 49) hk (.aload_n 0) 1 rfl rfl rfl rfl ?_
          refine ev_ldJ 18736 52 hk rfl rfl rfl ?_
          refine ev_cv 102 1 [.int (b2i (fM_isWord M 18736))] 55 hk rfl rfl rfl rfl lk_model rfl rfl rfl (rM_isWord rfl) rfl rfl rfl rfl ?_
          refine ev_d1 60 58 hk rfl rfl rfl rfl (px_beq hx (fun hc hx => ?_) (fun hc hx => ?_))
          · refine ev_ls (L' := [some (.ref 247)]) (st' := [.ref 247]) (pc' := 61) hk (.aload_n 0) 1 rfl rfl rfl rfl ?_
            refine ev_ldJ 525939 64 hk rfl rfl rfl ?_
            refine ev_cv 102 1 [.int (b2i (fM_isWord M 525939))] 67 hk rfl rfl rfl rfl lk_model rfl rfl rfl (rM_isWord rfl) rfl rfl rfl rfl ?_
            refine ev_d1 72 70 hk rfl rfl rfl rfl (px_beq hx (fun hc hx => ?_) (fun hc hx => ?_))
            · refine ev_ls (L' := [some (.ref 247)]) (st' := [.ref 247]) (pc' := 73) hk (.aload_n 0) 1 rfl rfl rfl rfl ?_
              refine ev_ldJ 609752116 76 hk rfl rfl rfl ?_
              refine ev_cv 102 1 [.int (b2i (fM_isWord M 609752116))] 79 hk rfl rfl rfl rfl lk_model rfl rfl rfl (rM_isWord rfl) rfl rfl rfl rfl ?_
              refine ev_d1 87 82 hk rfl rfl rfl rfl (px_beq hx (fun hc hx => ?_) (fun hc hx => ?_))
              · refine ev_op (st' := [.int (-1)]) (pc' := 88) hk (.iconst (-1)) 1 rfl rfl rfl ?_
                cases hx
                obtain rfl := hM
                exact ev_retI hk rfl rfl
              · refine ev_op (st' := [.int 6]) (pc' := 84) hk (.bipush 6) 2 rfl rfl rfl ?_
                refine ev_jp (pc' := 88) (st' := [.int 6]) hk (.goto 4) 3 rfl rfl rfl rfl rfl ?_
                cases hx
                obtain rfl := hM
                exact ev_retI hk rfl rfl
            · refine ev_op (st' := [.int 5]) (pc' := 71) hk (.iconst 5) 1 rfl rfl rfl ?_
              cases hx
              obtain rfl := hM
              exact ev_retI hk rfl rfl
          · refine ev_op (st' := [.int 4]) (pc' := 59) hk (.iconst 4) 1 rfl rfl rfl ?_
            cases hx
            obtain rfl := hM
            exact ev_retI hk rfl rfl
        · refine ev_op (st' := [.int 3]) (pc' := 47) hk (.iconst 3) 1 rfl rfl rfl ?_
          cases hx
          obtain rfl := hM
          exact ev_retI hk rfl rfl
      · refine ev_op (st' := [.int 2]) (pc' := 35) hk (.iconst 2) 1 rfl rfl rfl ?_
        cases hx
        obtain rfl := hM
        exact ev_retI hk rfl rfl
    · refine ev_op (st' := [.int 1]) (pc' := 23) hk (.iconst 1) 1 rfl rfl rfl ?_
      cases hx
      obtain rfl := hM
      exact ev_retI hk rfl rfl
  · refine ev_op (st' := [.int 0]) (pc' := 11) hk (.iconst 0) 1 rfl rfl rfl ?_
    cases hx
    obtain rfl := hM
    exact ev_retI hk rfl rfl
set_option maxRecDepth 4000 in
theorem rM_wrong_j22 {S : Nat} {xs : Nat → Int32} {I : zI} {C : zC} {Y : Nat → Int32} {Γ : Nat → zG} {D : zD} {O : Nat → Int32} {M : zM} {ou : Nat → Int64} {od : Nat → UInt64} {j : Nat} {a0t : Int32} {y : (Option Value ⊕ String) × px_H} {x : zM}  (hx : fM_wrong_j22 M a0t = some x) (hM : (fun X : zM => y = (((.inl none), (zH I C Y Γ D O X ou od j)) : (Option Value ⊕ String) × px_H)) x) (u1 : Option Value) (hu1 : px_cz u1 = true) : Ev S xs 203 22 [some (.ref 247), u1] [.int a0t, .ref 247] (zH I C Y Γ D O M ou od j) y := by
  have hk : pt_mt[203]? = some pt_r203 := rfl
  unfold fM_wrong_j22 at hx
  obtain ⟨M5, hM5, hx⟩ := bnd_some hx
  have hM5 := Option.some.inj hM5
  refine ev_pf 25 hk rfl rfl lk_model rfl rfl rfl (sf_8_8 hM5) rfl ?_
  refine ev_ls (L' := [some (.ref 247), u1]) (st' := [.ref 247]) (pc' := 26) hk (.aload_n 0) 1 rfl rfl rfl rfl ?_
  refine ev_ls (L' := [some (.ref 247), u1]) (st' := [.ref 247, .ref 247]) (pc' := 27) hk (.aload_n 0) 1 rfl rfl rfl rfl ?_
  refine ev_gf (.int (mF M5 5)) 30 hk rfl rfl lk_model rfl rfl ?_
  obtain ⟨M6, hM6, hx⟩ := bnd_some hx
  have hM6 := Option.some.inj hM6
  refine ev_pf 33 hk rfl rfl lk_model rfl rfl rfl (sf_8_9 hM6) rfl ?_
  cases hx
  obtain rfl := hM
  exact ev_retv hk rfl rfl
set_option maxRecDepth 2000 in
theorem rM_wrong {S : Nat} {xs : Nat → Int32} {I : zI} {C : zC} {Y : Nat → Int32} {Γ : Nat → zG} {D : zD} {O : Nat → Int32} {M : zM} {ou : Nat → Int64} {od : Nat → UInt64} {j : Nat} {a1 : Int32} {X : zM}   (hx : fM_wrong M a1 = some X) : Ev S xs 203 0 [some (.ref 247), some (.int a1)] [] (zH I C Y Γ D O M ou od j) (((.inl none), (zH I C Y Γ D O X ou od j)) : (Option Value ⊕ String) × px_H) := by
  generalize hM : (((.inl none), (zH I C Y Γ D O X ou od j)) : (Option Value ⊕ String) × px_H) = y
  replace hM := hM.symm
  have hk : pt_mt[203]? = some pt_r203 := rfl
  unfold fM_wrong at hx
  refine ev_ls (L' := [some (.ref 247), some (.int a1)]) (st' := [.ref 247]) (pc' := 1) hk (.aload_n 0) 1 rfl rfl rfl rfl ?_
  refine ev_gf (.int (mF M 8)) 4 hk rfl rfl lk_model rfl rfl ?_
  refine ev_d1 8 7 hk rfl rfl rfl rfl (px_cle hx (fun hc hx => ?_) (fun hc hx => ?_))
  · refine ev_ls (L' := [some (.ref 247), some (.int a1)]) (st' := [.ref 247]) (pc' := 9) hk (.aload_n 0) 1 rfl rfl rfl rfl ?_
    refine ev_ls (L' := [some (.ref 247), some (.int a1)]) (st' := [.ref 247, .ref 247]) (pc' := 10) hk (.aload_n 0) 1 rfl rfl rfl rfl ?_
    refine ev_gf (.int (mF M 6)) 13 hk rfl rfl lk_model rfl rfl ?_
    refine ev_op (st' := [.int 4, .int (mF M 6), .ref 247]) (pc' := 14) hk (.iconst 4) 1 rfl rfl rfl ?_
    refine ev_d2 21 17 hk rfl rfl rfl rfl (px_cne hx (fun hc hx => ?_) (fun hc hx => ?_))
    · refine ev_ls (L' := [some (.ref 247), some (.int a1)]) (st' := [.int a1, .ref 247]) (pc' := 22) hk (.iload_n 1) 1 rfl rfl rfl rfl ?_
      exact rM_wrong_j22 hx hM (some (.int a1)) rfl
    · refine ev_op (st' := [.int 1, .ref 247]) (pc' := 18) hk (.iconst 1) 1 rfl rfl rfl ?_
      refine ev_jp (pc' := 22) (st' := [.int 1, .ref 247]) hk (.goto 4) 3 rfl rfl rfl rfl rfl ?_
      exact rM_wrong_j22 hx hM (some (.int a1)) rfl
  · cases hx
    obtain rfl := hM
    exact ev_retv hk rfl rfl
set_option maxRecDepth 4000 in
theorem rM_looks_j47 {S : Nat} {xs : Nat → Int32} {I : zI} {C : zC} {Y : Nat → Int32} {Γ : Nat → zG} {D : zD} {O : Nat → Int32} {M : zM} {ou : Nat → Int64} {od : Nat → UInt64} {j : Nat}  {y : (Option Value ⊕ String) × px_H} {x : Int32 × zM}  (hx : fM_looks_j47 M = some x) (hM : (fun X : Int32 × zM => y = (((.inl (some (.int X.1))), (zH I C Y Γ D O X.2 ou od j)) : (Option Value ⊕ String) × px_H)) x) (u1 : Option Value) (hu1 : px_cz u1 = true) (u2 : Option Value) (hu2 : px_cz u2 = true) : Ev S xs 128 47 [some (.ref 247), u1, u2] [] (zH I C Y Γ D O M ou od j) y := by
  have hk : pt_mt[128]? = some pt_r128 := rfl
  unfold fM_looks_j47 at hx
  refine ev_ls (L' := [some (.ref 247), u1, u2]) (st' := [.ref 247]) (pc' := 48) hk (.aload_n 0) 1 rfl rfl rfl rfl ?_
  refine ev_gf (.int (mF M 7)) 51 hk rfl rfl lk_model rfl rfl ?_
  cases hx
  obtain rfl := hM
  exact ev_retI hk rfl rfl
set_option maxRecDepth 4000 in
theorem rM_looks_j20 {S : Nat} {xs : Nat → Int32} {I : zI} {C : zC} {Y : Nat → Int32} {Γ : Nat → zG} {D : zD} {O : Nat → Int32} {M : zM} {ou : Nat → Int64} {od : Nat → UInt64} {j : Nat} {a1 : Int32} {a2 : Int32} {y : (Option Value ⊕ String) × px_H} {x : Int32 × zM}  (hx : fM_looks_j20 M a1 a2 = some x) (hM : (fun X : Int32 × zM => y = (((.inl (some (.int X.1))), (zH I C Y Γ D O X.2 ou od j)) : (Option Value ⊕ String) × px_H)) x)  : Ev S xs 128 20 [some (.ref 247), some (.int a1), some (.int a2)] [] (zH I C Y Γ D O M ou od j) y := by
  have hk : pt_mt[128]? = some pt_r128 := rfl
  unfold fM_looks_j20 at hx
  refine ev_ls (L' := [some (.ref 247), some (.int a1), some (.int a2)]) (st' := [.ref 247]) (pc' := 21) hk (.aload_n 0) 1 rfl rfl rfl rfl ?_
  refine ev_cv 84 0 [.int (b2i (fM_isGood M))] 24 hk rfl rfl rfl rfl lk_model rfl rfl rfl (rM_isGood rfl) rfl rfl rfl rfl ?_
  refine ev_d1 47 27 hk rfl rfl rfl rfl (px_beq hx (fun hc hx => ?_) (fun hc hx => ?_))
  · exact rM_looks_j47 hx hM (some (.int a1)) rfl (some (.int a2)) rfl
  · refine ev_ls (L' := [some (.ref 247), some (.int a1), some (.int a2)]) (st' := [.ref 247]) (pc' := 28) hk (.aload_n 0) 1 rfl rfl rfl rfl ?_
    refine ev_gf (.int (mF M 7)) 31 hk rfl rfl lk_model rfl rfl ?_
    refine ev_op (st' := [.long (Int32.toInt64 (mF M 7))]) (pc' := 32) hk (.i2l) 1 rfl rfl rfl ?_
    refine ev_ls (L' := [some (.ref 247), some (.int a1), some (.int a2)]) (st' := [.int a1, .long (Int32.toInt64 (mF M 7))]) (pc' := 33) hk (.iload_n 1) 1 rfl rfl rfl rfl ?_
    refine ev_op (st' := [.long (Int32.toInt64 a1), .long (Int32.toInt64 (mF M 7))]) (pc' := 34) hk (.i2l) 1 rfl rfl rfl ?_
    refine ev_ls (L' := [some (.ref 247), some (.int a1), some (.int a2)]) (st' := [.int a2, .long (Int32.toInt64 a1), .long (Int32.toInt64 (mF M 7))]) (pc' := 35) hk (.iload_n 2) 1 rfl rfl rfl rfl ?_
    refine ev_op (st' := [.long (Int32.toInt64 a2), .long (Int32.toInt64 a1), .long (Int32.toInt64 (mF M 7))]) (pc' := 36) hk (.i2l) 1 rfl rfl rfl ?_
    refine ev_cs 86 3 [.int (b2i (fM_isIn (Int32.toInt64 (mF M 7)) (Int32.toInt64 a1) (Int32.toInt64 a2)))] 39 hk rfl rfl (by decide) rfl rfl rfl (rM_isIn rfl) rfl rfl rfl rfl ?_
    refine ev_d1 47 42 hk rfl rfl rfl rfl (px_bne hx (fun hc hx => ?_) (fun hc hx => ?_))
    · exact rM_looks_j47 hx hM (some (.int a1)) rfl (some (.int a2)) rfl
    · refine ev_ls (L' := [some (.ref 247), some (.int a1), some (.int a2)]) (st' := [.ref 247]) (pc' := 43) hk (.aload_n 0) 1 rfl rfl rfl rfl ?_
      refine ev_op (st' := [.int 2, .ref 247]) (pc' := 44) hk (.iconst 2) 1 rfl rfl rfl ?_
      obtain ⟨M1, hc2, hx⟩ := bnd_some hx
      refine ev_cv 203 1 [] 47 hk rfl rfl rfl rfl lk_model rfl rfl rfl (rM_wrong hc2) rfl rfl rfl rfl ?_
      exact rM_looks_j47 hx hM (some (.int a1)) rfl (some (.int a2)) rfl
set_option maxRecDepth 2000 in
theorem rM_looks {S : Nat} {xs : Nat → Int32} {I : zI} {C : zC} {Y : Nat → Int32} {Γ : Nat → zG} {D : zD} {O : Nat → Int32} {M : zM} {ou : Nat → Int64} {od : Nat → UInt64} {j : Nat} {a1 : Int32} {a2 : Int32} {X : Int32 × zM}   (hx : fM_looks M a1 a2 = some X) : Ev S xs 128 0 [some (.ref 247), some (.int a1), some (.int a2)] [] (zH I C Y Γ D O M ou od j) (((.inl (some (.int X.1))), (zH I C Y Γ D O X.2 ou od j)) : (Option Value ⊕ String) × px_H) := by
  generalize hM : (((.inl (some (.int X.1))), (zH I C Y Γ D O X.2 ou od j)) : (Option Value ⊕ String) × px_H) = y
  replace hM := hM.symm
  have hk : pt_mt[128]? = some pt_r128 := rfl
  unfold fM_looks at hx
  refine ev_ls (L' := [some (.ref 247), some (.int a1), some (.int a2)]) (st' := [.ref 247]) (pc' := 1) hk (.aload_n 0) 1 rfl rfl rfl rfl ?_
  refine ev_cv 84 0 [.int (b2i (fM_isGood M))] 4 hk rfl rfl rfl rfl lk_model rfl rfl rfl (rM_isGood rfl) rfl rfl rfl rfl ?_
  refine ev_d1 20 7 hk rfl rfl rfl rfl (px_beq hx (fun hc hx => ?_) (fun hc hx => ?_))
  · exact rM_looks_j20 hx hM 
  · refine ev_ls (L' := [some (.ref 247), some (.int a1), some (.int a2)]) (st' := [.ref 247]) (pc' := 8) hk (.aload_n 0) 1 rfl rfl rfl rfl ?_
    refine ev_gf (.int (mF M 6)) 11 hk rfl rfl lk_model rfl rfl ?_
    refine ev_op (st' := [.int 2, .int (mF M 6)]) (pc' := 12) hk (.iconst 2) 1 rfl rfl rfl ?_
    refine ev_d2 20 15 hk rfl rfl rfl rfl (px_ceq hx (fun hc hx => ?_) (fun hc hx => ?_))
    · exact rM_looks_j20 hx hM 
    · refine ev_ls (L' := [some (.ref 247), some (.int a1), some (.int a2)]) (st' := [.ref 247]) (pc' := 16) hk (.aload_n 0) 1 rfl rfl rfl rfl ?_
      refine ev_op (st' := [.int 1, .ref 247]) (pc' := 17) hk (.iconst 1) 1 rfl rfl rfl ?_
      obtain ⟨M3, hc4, hx⟩ := bnd_some hx
      refine ev_cv 203 1 [] 20 hk rfl rfl rfl rfl lk_model rfl rfl rfl (rM_wrong hc4) rfl rfl rfl rfl ?_
      exact rM_looks_j20 hx hM 
set_option maxRecDepth 2000 in
theorem rM_number {S : Nat} {xs : Nat → Int32} {I : zI} {C : zC} {Y : Nat → Int32} {Γ : Nat → zG} {D : zD} {O : Nat → Int32} {M : zM} {ou : Nat → Int64} {od : Nat → UInt64} {j : Nat} {a1 : Int32} {a2 : Int32} {X : Int32 × zM}   (hx : fM_number M a1 a2 = some X) : Ev S xs 144 0 [some (.ref 247), some (.int a1), some (.int a2), none] [] (zH I C Y Γ D O M ou od j) (((.inl (some (.int X.1))), (zH I C Y Γ D O X.2 ou od j)) : (Option Value ⊕ String) × px_H) := by
  generalize hM : (((.inl (some (.int X.1))), (zH I C Y Γ D O X.2 ou od j)) : (Option Value ⊕ String) × px_H) = y
  replace hM := hM.symm
  have hk : pt_mt[144]? = some pt_r144 := rfl
  unfold fM_number at hx
  refine ev_ls (L' := [some (.ref 247), some (.int a1), some (.int a2), none]) (st' := [.ref 247]) (pc' := 1) hk (.aload_n 0) 1 rfl rfl rfl rfl ?_
  refine ev_ls (L' := [some (.ref 247), some (.int a1), some (.int a2), none]) (st' := [.int a1, .ref 247]) (pc' := 2) hk (.iload_n 1) 1 rfl rfl rfl rfl ?_
  refine ev_ls (L' := [some (.ref 247), some (.int a1), some (.int a2), none]) (st' := [.int a2, .int a1, .ref 247]) (pc' := 3) hk (.iload_n 2) 1 rfl rfl rfl rfl ?_
  obtain ⟨v2, M1, hc3, hx⟩ := bnd2_some hx
  refine ev_cv 128 2 [.int v2] 6 hk rfl rfl rfl rfl lk_model rfl rfl rfl (rM_looks hc3) rfl rfl rfl rfl ?_
  refine ev_ls (L' := [some (.ref 247), some (.int a1), some (.int a2), some (.int v2)]) (st' := []) (pc' := 7) hk (.istore_n 3) 1 rfl rfl rfl rfl ?_
  refine ev_ls (L' := [some (.ref 247), some (.int a1), some (.int a2), some (.int v2)]) (st' := [.ref 247]) (pc' := 8) hk (.aload_n 0) 1 rfl rfl rfl rfl ?_
  refine ev_cv 84 0 [.int (b2i (fM_isGood M1))] 11 hk rfl rfl rfl rfl lk_model rfl rfl rfl (rM_isGood rfl) rfl rfl rfl rfl ?_
  refine ev_d1 18 14 hk rfl rfl rfl rfl (px_beq hx (fun hc hx => ?_) (fun hc hx => ?_))
  · refine ev_ls (L' := [some (.ref 247), some (.int a1), some (.int a2), some (.int v2)]) (st' := [.int v2]) (pc' := 19) hk (.iload_n 3) 1 rfl rfl rfl rfl ?_
    cases hx
    obtain rfl := hM
    exact ev_retI hk rfl rfl
  · refine ev_ls (L' := [some (.ref 247), some (.int a1), some (.int a2), some (.int v2)]) (st' := [.ref 247]) (pc' := 15) hk (.aload_n 0) 1 rfl rfl rfl rfl ?_
    obtain ⟨M4, hc5, hx⟩ := bnd_some hx
    refine ev_cv 58 0 [] 18 hk rfl rfl rfl rfl lk_model rfl rfl rfl (rM_goOnRead hc5) rfl rfl rfl rfl ?_
    refine ev_ls (L' := [some (.ref 247), some (.int a1), some (.int a2), some (.int v2)]) (st' := [.int v2]) (pc' := 19) hk (.iload_n 3) 1 rfl rfl rfl rfl ?_
    cases hx
    obtain rfl := hM
    exact ev_retI hk rfl rfl
set_option maxRecDepth 2000 in
theorem rM_isSign {S : Nat} {xs : Nat → Int32} {I : zI} {C : zC} {Y : Nat → Int32} {Γ : Nat → zG} {D : zD} {O : Nat → Int32} {M : zM} {ou : Nat → Int64} {od : Nat → UInt64} {j : Nat} {a1 : Int32} {X : Bool}   (hx : fM_isSign M a1 = X) : Ev S xs 91 0 [some (.ref 247), some (.int a1)] [] (zH I C Y Γ D O M ou od j) (((.inl (some (.int (b2i X)))), (zH I C Y Γ D O M ou od j)) : (Option Value ⊕ String) × px_H) := by
  generalize hM : (((.inl (some (.int (b2i X)))), (zH I C Y Γ D O M ou od j)) : (Option Value ⊕ String) × px_H) = y
  replace hM := hM.symm
  have hk : pt_mt[91]? = some pt_r91 := rfl
  unfold fM_isSign at hx
  refine ev_ls (L' := [some (.ref 247), some (.int a1)]) (st' := [.ref 247]) (pc' := 1) hk (.aload_n 0) 1 rfl rfl rfl rfl ?_
  refine ev_gf (.int (mF M 8)) 4 hk rfl rfl lk_model rfl rfl ?_
  refine ev_d1 27 7 hk rfl rfl rfl rfl (px_cne hx (fun hc hx => ?_) (fun hc hx => ?_))
  · refine ev_op (st' := [.int 0]) (pc' := 28) hk (.iconst 0) 1 rfl rfl rfl ?_
    cases hx
    obtain rfl := hM
    exact ev_retZ false rfl hk rfl rfl
  · refine ev_ls (L' := [some (.ref 247), some (.int a1)]) (st' := [.ref 247]) (pc' := 8) hk (.aload_n 0) 1 rfl rfl rfl rfl ?_
    refine ev_gf (.int (mF M 6)) 11 hk rfl rfl lk_model rfl rfl ?_
    refine ev_op (st' := [.int 3, .int (mF M 6)]) (pc' := 12) hk (.iconst 3) 1 rfl rfl rfl ?_
    refine ev_d2 27 15 hk rfl rfl rfl rfl (px_cne hx (fun hc hx => ?_) (fun hc hx => ?_))
    · refine ev_op (st' := [.int 0]) (pc' := 28) hk (.iconst 0) 1 rfl rfl rfl ?_
      cases hx
      obtain rfl := hM
      exact ev_retZ false rfl hk rfl rfl
    · refine ev_ls (L' := [some (.ref 247), some (.int a1)]) (st' := [.ref 247]) (pc' := 16) hk (.aload_n 0) 1 rfl rfl rfl rfl ?_
      refine ev_gf (.int (mF M 7)) 19 hk rfl rfl lk_model rfl rfl ?_
      refine ev_ls (L' := [some (.ref 247), some (.int a1)]) (st' := [.int a1, .int (mF M 7)]) (pc' := 20) hk (.iload_n 1) 1 rfl rfl rfl rfl ?_
      refine ev_d2 27 23 hk rfl rfl rfl rfl (px_cne hx (fun hc hx => ?_) (fun hc hx => ?_))
      · refine ev_op (st' := [.int 0]) (pc' := 28) hk (.iconst 0) 1 rfl rfl rfl ?_
        cases hx
        obtain rfl := hM
        exact ev_retZ false rfl hk rfl rfl
      · refine ev_op (st' := [.int 1]) (pc' := 24) hk (.iconst 1) 1 rfl rfl rfl ?_
        refine ev_jp (pc' := 28) (st' := [.int 1]) hk (.goto 4) 3 rfl rfl rfl rfl rfl ?_
        cases hx
        obtain rfl := hM
        exact ev_retZ true rfl hk rfl rfl
set_option maxRecDepth 4000 in
theorem rM_mustSign_j20 {S : Nat} {xs : Nat → Int32} {I : zI} {C : zC} {Y : Nat → Int32} {Γ : Nat → zG} {D : zD} {O : Nat → Int32} {M : zM} {ou : Nat → Int64} {od : Nat → UInt64} {j : Nat}  {y : (Option Value ⊕ String) × px_H} {x : zM}  (hx : fM_mustSign_j20 M = some x) (hM : (fun X : zM => y = (((.inl none), (zH I C Y Γ D O X ou od j)) : (Option Value ⊕ String) × px_H)) x) (u1 : Option Value) (hu1 : px_cz u1 = true) : Ev S xs 139 20 [some (.ref 247), u1] [] (zH I C Y Γ D O M ou od j) y := by
  have hk : pt_mt[139]? = some pt_r139 := rfl
  unfold fM_mustSign_j20 at hx
  refine ev_ls (L' := [some (.ref 247), u1]) (st' := [.ref 247]) (pc' := 21) hk (.aload_n 0) 1 rfl rfl rfl rfl ?_
  refine ev_cv 84 0 [.int (b2i (fM_isGood M))] 24 hk rfl rfl rfl rfl lk_model rfl rfl rfl (rM_isGood rfl) rfl rfl rfl rfl ?_
  refine ev_d1 31 27 hk rfl rfl rfl rfl (px_beq hx (fun hc hx => ?_) (fun hc hx => ?_))
  · cases hx
    obtain rfl := hM
    exact ev_retv hk rfl rfl
  · refine ev_ls (L' := [some (.ref 247), u1]) (st' := [.ref 247]) (pc' := 28) hk (.aload_n 0) 1 rfl rfl rfl rfl ?_
    obtain ⟨M1, hc2, hx⟩ := bnd_some hx
    refine ev_cv 58 0 [] 31 hk rfl rfl rfl rfl lk_model rfl rfl rfl (rM_goOnRead hc2) rfl rfl rfl rfl ?_
    cases hx
    obtain rfl := hM
    exact ev_retv hk rfl rfl
set_option maxRecDepth 2000 in
theorem rM_mustSign {S : Nat} {xs : Nat → Int32} {I : zI} {C : zC} {Y : Nat → Int32} {Γ : Nat → zG} {D : zD} {O : Nat → Int32} {M : zM} {ou : Nat → Int64} {od : Nat → UInt64} {j : Nat} {a1 : Int32} {X : zM}   (hx : fM_mustSign M a1 = some X) : Ev S xs 139 0 [some (.ref 247), some (.int a1)] [] (zH I C Y Γ D O M ou od j) (((.inl none), (zH I C Y Γ D O X ou od j)) : (Option Value ⊕ String) × px_H) := by
  generalize hM : (((.inl none), (zH I C Y Γ D O X ou od j)) : (Option Value ⊕ String) × px_H) = y
  replace hM := hM.symm
  have hk : pt_mt[139]? = some pt_r139 := rfl
  unfold fM_mustSign at hx
  refine ev_ls (L' := [some (.ref 247), some (.int a1)]) (st' := [.ref 247]) (pc' := 1) hk (.aload_n 0) 1 rfl rfl rfl rfl ?_
  refine ev_cv 84 0 [.int (b2i (fM_isGood M))] 4 hk rfl rfl rfl rfl lk_model rfl rfl rfl (rM_isGood rfl) rfl rfl rfl rfl ?_
  refine ev_d1 20 7 hk rfl rfl rfl rfl (px_beq hx (fun hc hx => ?_) (fun hc hx => ?_))
  · exact rM_mustSign_j20 hx hM (some (.int a1)) rfl
  · refine ev_ls (L' := [some (.ref 247), some (.int a1)]) (st' := [.ref 247]) (pc' := 8) hk (.aload_n 0) 1 rfl rfl rfl rfl ?_
    refine ev_ls (L' := [some (.ref 247), some (.int a1)]) (st' := [.int a1, .ref 247]) (pc' := 9) hk (.iload_n 1) 1 rfl rfl rfl rfl ?_
    refine ev_cv 91 1 [.int (b2i (fM_isSign M a1))] 12 hk rfl rfl rfl rfl lk_model rfl rfl rfl (rM_isSign rfl) rfl rfl rfl rfl ?_
    refine ev_d1 20 15 hk rfl rfl rfl rfl (px_bne hx (fun hc hx => ?_) (fun hc hx => ?_))
    · exact rM_mustSign_j20 hx hM (some (.int a1)) rfl
    · refine ev_ls (L' := [some (.ref 247), some (.int a1)]) (st' := [.ref 247]) (pc' := 16) hk (.aload_n 0) 1 rfl rfl rfl rfl ?_
      refine ev_op (st' := [.int 1, .ref 247]) (pc' := 17) hk (.iconst 1) 1 rfl rfl rfl ?_
      obtain ⟨M3, hc4, hx⟩ := bnd_some hx
      refine ev_cv 203 1 [] 20 hk rfl rfl rfl rfl lk_model rfl rfl rfl (rM_wrong hc4) rfl rfl rfl rfl ?_
      exact rM_mustSign_j20 hx hM (some (.int a1)) rfl

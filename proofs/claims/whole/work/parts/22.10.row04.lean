/-! THE ROWS of the methods: each function is what the pure machine does (4) -/
set_option maxRecDepth 2000 in
theorem rM_movesHem {S : Nat} {xs : Nat → Int32} {I : zI} {C : zC} {Y : Nat → Int32} {Γ : Nat → zG} {D : zD} {O : Nat → Int32} {M : zM} {ou : Nat → Int64} {od : Nat → UInt64} {j : Nat} {a1 : Int32} {a2 : Int32} {X : Int32 × zM}   (hx : fM_movesHem M a1 a2 = some X) : Ev S xs 138 0 [some (.ref 247), some (.int a1), some (.int a2), none, none, none, none, none] [] (zH I C Y Γ D O M ou od j) (((.inl (some (.int X.1))), (zH I C Y Γ D O X.2 ou od j)) : (Option Value ⊕ String) × px_H) := by
  generalize hM : (((.inl (some (.int X.1))), (zH I C Y Γ D O X.2 ou od j)) : (Option Value ⊕ String) × px_H) = y
  replace hM := hM.symm
  have hk : pt_mt[138]? = some pt_r138 := rfl
  unfold fM_movesHem at hx
  refine ev_ls (L' := [some (.ref 247), some (.int a1), some (.int a2), none, none, none, none, none]) (st' := [.ref 247]) (pc' := 1) hk (.aload_n 0) 1 rfl rfl rfl rfl ?_
  refine ev_gf (.ref 249) 4 hk rfl rfl lk_model rfl rfl ?_
  refine ev_op (st' := [.int 5, .ref 249]) (pc' := 5) hk (.iconst 5) 1 rfl rfl rfl ?_
  refine ev_ls (L' := [some (.ref 247), some (.int a1), some (.int a2), none, none, none, none, none]) (st' := [.int a1, .int 5, .ref 249]) (pc' := 6) hk (.iload_n 1) 1 rfl rfl rfl rfl ?_
  refine ev_op (st' := [.int (5 + a1), .ref 249]) (pc' := 7) hk (.iadd) 1 rfl rfl rfl ?_
  obtain ⟨v26, hv26, hx⟩ := bnd_some hx
  refine ev_ial hv26 8 hk rfl lk_m249 rfl ?_
  refine ev_ls (L' := [some (.ref 247), some (.int a1), some (.int a2), some (.int v26), none, none, none, none]) (st' := []) (pc' := 9) hk (.istore_n 3) 1 rfl rfl rfl rfl ?_
  refine ev_ls (L' := [some (.ref 247), some (.int a1), some (.int a2), some (.int v26), none, none, none, none]) (st' := [.int v26]) (pc' := 10) hk (.iload_n 3) 1 rfl rfl rfl rfl ?_
  refine ev_ls (L' := [some (.ref 247), some (.int a1), some (.int a2), some (.int v26), none, none, none, none]) (st' := [.int a2, .int v26]) (pc' := 11) hk (.iload_n 2) 1 rfl rfl rfl rfl ?_
  refine ev_d2 18 14 hk rfl rfl rfl rfl (px_cge hx (fun hc hx => ?_) (fun hc hx => ?_))
  · refine ev_ls (L' := [some (.ref 247), some (.int a1), some (.int a2), some (.int v26), none, none, none, none]) (st' := [.int a2]) (pc' := 19) hk (.iload_n 2) 1 rfl rfl rfl rfl ?_
    exact rM_movesHem_j19 hx hM 
  · refine ev_ls (L' := [some (.ref 247), some (.int a1), some (.int a2), some (.int v26), none, none, none, none]) (st' := [.int v26]) (pc' := 15) hk (.iload_n 3) 1 rfl rfl rfl rfl ?_
    refine ev_jp (pc' := 19) (st' := [.int v26]) hk (.goto 4) 3 rfl rfl rfl rfl rfl ?_
    exact rM_movesHem_j19 hx hM 
set_option maxRecDepth 4000 in
theorem rM_moveHem_j26 {S : Nat} {xs : Nat → Int32} {I : zI} {C : zC} {Y : Nat → Int32} {Γ : Nat → zG} {D : zD} {O : Nat → Int32} {M : zM} {ou : Nat → Int64} {od : Nat → UInt64} {j : Nat} {a1 : Int32} {a2 : Int32} {a0t : Bool} {a1t : Bool} {y : (Option Value ⊕ String) × px_H} {x : Int32 × zM}  (hx : fM_moveHem_j26 M a1 a2 a0t a1t = some x) (hM : (fun X : Int32 × zM => y = (((.inl (some (.int X.1))), (zH I C Y Γ D O X.2 ou od j)) : (Option Value ⊕ String) × px_H)) x) (u3 : Option Value) (hu3 : px_cz u3 = true) : Ev S xs 137 26 [some (.ref 247), some (.int a1), some (.int a2), u3] [.int (b2i a0t), .int (b2i a1t), .ref 247] (zH I C Y Γ D O M ou od j) y := by
  have hk : pt_mt[137]? = some pt_r137 := rfl
  unfold fM_moveHem_j26 at hx
  obtain ⟨v2, M1, hc3, hx⟩ := bnd2_some hx
  refine ev_cv 61 2 [.int (b2i v2)] 29 hk rfl rfl rfl rfl lk_model rfl rfl rfl (rM_goesBoth hc3) rfl rfl rfl rfl ?_
  refine ev_d1 34 32 hk rfl rfl rfl rfl (px_bne hx (fun hc hx => ?_) (fun hc hx => ?_))
  · refine ev_ls (L' := [some (.ref 247), some (.int a1), some (.int a2), u3]) (st' := [.ref 247]) (pc' := 35) hk (.aload_n 0) 1 rfl rfl rfl rfl ?_
    obtain ⟨M4, hc5, hx⟩ := bnd_some hx
    refine ev_cv 117 0 [] 38 hk rfl rfl rfl rfl lk_model rfl rfl rfl (rM_laysAside hc5) rfl rfl rfl rfl ?_
    refine ev_ls (L' := [some (.ref 247), some (.int a1), some (.int a2), u3]) (st' := [.ref 247]) (pc' := 39) hk (.aload_n 0) 1 rfl rfl rfl rfl ?_
    refine ev_ls (L' := [some (.ref 247), some (.int a1), some (.int a2), u3]) (st' := [.ref 247, .ref 247]) (pc' := 40) hk (.aload_n 0) 1 rfl rfl rfl rfl ?_
    refine ev_ls (L' := [some (.ref 247), some (.int a1), some (.int a2), u3]) (st' := [.int a1, .ref 247, .ref 247]) (pc' := 41) hk (.iload_n 1) 1 rfl rfl rfl rfl ?_
    refine ev_ls (L' := [some (.ref 247), some (.int a1), some (.int a2), u3]) (st' := [.int a2, .int a1, .ref 247, .ref 247]) (pc' := 42) hk (.iload_n 2) 1 rfl rfl rfl rfl ?_
    obtain ⟨v7, M6, hc8, hx⟩ := bnd2_some hx
    refine ev_cv 138 2 [.int v7, .ref 247] 45 hk rfl rfl rfl rfl lk_model rfl rfl rfl (rM_movesHem hc8) rfl rfl rfl rfl ?_
    obtain ⟨v10, M9, hc11, hx⟩ := bnd2_some hx
    refine ev_cv 105 1 [.int v10] 48 hk rfl rfl rfl rfl lk_model rfl rfl rfl (rM_kept hc11) rfl rfl rfl rfl ?_
    cases hx
    obtain rfl := hM
    exact ev_retI hk rfl rfl
  · refine ev_op (st' := [.int 0]) (pc' := 33) hk (.iconst 0) 1 rfl rfl rfl ?_
    cases hx
    obtain rfl := hM
    exact ev_retI hk rfl rfl
set_option maxRecDepth 4000 in
theorem rM_moveHem_j25 {S : Nat} {xs : Nat → Int32} {I : zI} {C : zC} {Y : Nat → Int32} {Γ : Nat → zG} {D : zD} {O : Nat → Int32} {M : zM} {ou : Nat → Int64} {od : Nat → UInt64} {j : Nat} {a1 : Int32} {a2 : Int32} {a0t : Bool} {y : (Option Value ⊕ String) × px_H} {x : Int32 × zM}  (hx : fM_moveHem_j25 M a1 a2 a0t = some x) (hM : (fun X : Int32 × zM => y = (((.inl (some (.int X.1))), (zH I C Y Γ D O X.2 ou od j)) : (Option Value ⊕ String) × px_H)) x) (u3 : Option Value) (hu3 : px_cz u3 = true) : Ev S xs 137 25 [some (.ref 247), some (.int a1), some (.int a2), u3] [.int (b2i a0t), .ref 247] (zH I C Y Γ D O M ou od j) y := by
  have hk : pt_mt[137]? = some pt_r137 := rfl
  unfold fM_moveHem_j25 at hx
  refine ev_op (st' := [.int 0, .int (b2i a0t), .ref 247]) (pc' := 26) hk (.iconst 0) 1 rfl rfl rfl ?_
  exact rM_moveHem_j26 hx hM u3 hu3
set_option maxRecDepth 2000 in
theorem rM_moveHem {S : Nat} {xs : Nat → Int32} {I : zI} {C : zC} {Y : Nat → Int32} {Γ : Nat → zG} {D : zD} {O : Nat → Int32} {M : zM} {ou : Nat → Int64} {od : Nat → UInt64} {j : Nat} {a1 : Int32} {a2 : Int32} {X : Int32 × zM}   (hx : fM_moveHem M a1 a2 = some X) : Ev S xs 137 0 [some (.ref 247), some (.int a1), some (.int a2), none] [] (zH I C Y Γ D O M ou od j) (((.inl (some (.int X.1))), (zH I C Y Γ D O X.2 ou od j)) : (Option Value ⊕ String) × px_H) := by
  generalize hM : (((.inl (some (.int X.1))), (zH I C Y Γ D O X.2 ou od j)) : (Option Value ⊕ String) × px_H) = y
  replace hM := hM.symm
  have hk : pt_mt[137]? = some pt_r137 := rfl
  unfold fM_moveHem at hx
  refine ev_ls (L' := [some (.ref 247), some (.int a1), some (.int a2), none]) (st' := [.int a1]) (pc' := 1) hk (.iload_n 1) 1 rfl rfl rfl rfl ?_
  refine ev_ls (L' := [some (.ref 247), some (.int a1), some (.int a2), none]) (st' := [.int a2, .int a1]) (pc' := 2) hk (.iload_n 2) 1 rfl rfl rfl rfl ?_
  refine ev_cs 93 2 [.int (b2i (fM_isSpotAt a1 a2))] 5 hk rfl rfl (by decide) rfl rfl rfl (rM_isSpotAt rfl) rfl rfl rfl rfl ?_
  refine ev_ls (L' := [some (.ref 247), some (.int a1), some (.int a2), some (.int (b2i (fM_isSpotAt a1 a2)))]) (st' := []) (pc' := 6) hk (.istore_n 3) 1 rfl rfl rfl rfl ?_
  refine ev_ls (L' := [some (.ref 247), some (.int a1), some (.int a2), some (.int (b2i (fM_isSpotAt a1 a2)))]) (st' := [.ref 247]) (pc' := 7) hk (.aload_n 0) 1 rfl rfl rfl rfl ?_
  refine ev_ls (L' := [some (.ref 247), some (.int a1), some (.int a2), some (.int (b2i (fM_isSpotAt a1 a2)))]) (st' := [.int (b2i (fM_isSpotAt a1 a2)), .ref 247]) (pc' := 8) hk (.iload_n 3) 1 rfl rfl rfl rfl ?_
  refine ev_ls (L' := [some (.ref 247), some (.int a1), some (.int a2), some (.int (b2i (fM_isSpotAt a1 a2)))]) (st' := [.int (b2i (fM_isSpotAt a1 a2)), .int (b2i (fM_isSpotAt a1 a2)), .ref 247]) (pc' := 9) hk (.iload_n 3) 1 rfl rfl rfl rfl ?_
  refine ev_d1 25 12 hk rfl rfl rfl rfl (px_beq hx (fun hc hx => ?_) (fun hc hx => ?_))
  · exact rM_moveHem_j25 hx hM (some (.int (b2i (fM_isSpotAt a1 a2)))) rfl
  · refine ev_ls (L' := [some (.ref 247), some (.int a1), some (.int a2), some (.int (b2i (fM_isSpotAt a1 a2)))]) (st' := [.ref 247, .int (b2i (fM_isSpotAt a1 a2)), .ref 247]) (pc' := 13) hk (.aload_n 0) 1 rfl rfl rfl rfl ?_
    refine ev_ls (L' := [some (.ref 247), some (.int a1), some (.int a2), some (.int (b2i (fM_isSpotAt a1 a2)))]) (st' := [.int a1, .ref 247, .int (b2i (fM_isSpotAt a1 a2)), .ref 247]) (pc' := 14) hk (.iload_n 1) 1 rfl rfl rfl rfl ?_
    refine ev_ls (L' := [some (.ref 247), some (.int a1), some (.int a2), some (.int (b2i (fM_isSpotAt a1 a2)))]) (st' := [.int a2, .int a1, .ref 247, .int (b2i (fM_isSpotAt a1 a2)), .ref 247]) (pc' := 15) hk (.iload_n 2) 1 rfl rfl rfl rfl ?_
    obtain ⟨v12, hc13, hx⟩ := bnd_some hx
    refine ev_cv 70 2 [.int v12, .int (b2i (fM_isSpotAt a1 a2)), .ref 247] 18 hk rfl rfl rfl rfl lk_model rfl rfl rfl (rM_hemWhy hc13) rfl rfl rfl rfl ?_
    refine ev_d1 25 21 hk rfl rfl rfl rfl (px_cne hx (fun hc hx => ?_) (fun hc hx => ?_))
    · exact rM_moveHem_j25 hx hM (some (.int (b2i (fM_isSpotAt a1 a2)))) rfl
    · refine ev_op (st' := [.int 1, .int (b2i (fM_isSpotAt a1 a2)), .ref 247]) (pc' := 22) hk (.iconst 1) 1 rfl rfl rfl ?_
      refine ev_jp (pc' := 26) (st' := [.int 1, .int (b2i (fM_isSpotAt a1 a2)), .ref 247]) hk (.goto 4) 3 rfl rfl rfl rfl rfl ?_
      exact rM_moveHem_j26 hx hM (some (.int (b2i (fM_isSpotAt a1 a2)))) rfl
set_option maxRecDepth 4000 in
theorem rX_needPlace_j14 {S : Nat} {xs : Nat → Int32} {I : zI} {C : zC} {Y : Nat → Int32} {Γ : Nat → zG} {D : zD} {O : Nat → Int32} {M : zM} {ou : Nat → Int64} {od : Nat → UInt64} {j : Nat}  {y : (Option Value ⊕ String) × px_H} {x : (Unit ⊕ String)}  (hx : fX_needPlace_j14 = some x) (hM : (fun X : (Unit ⊕ String) => y = (Sum.elim (fun v => ((.inl none), (zH I C Y Γ D O M ou od j))) (fun E => (.inr E, (zH I C Y Γ D O M ou od (j + 1)))) X : (Option Value ⊕ String) × px_H)) x) (u0 : Option Value) (hu0 : px_cz u0 = true) (u1 : Option Value) (hu1 : px_cz u1 = true) : Ev S xs 343 14 [u0, u1] [] (zH I C Y Γ D O M ou od j) y := by
  have hk : pt_mt[343]? = some pt_r343 := rfl
  unfold fX_needPlace_j14 at hx
  cases hx
  obtain rfl := hM
  exact ev_tw hk rfl (by rfl) rfl zH_j
set_option maxRecDepth 2000 in
theorem rX_needPlace {S : Nat} {xs : Nat → Int32} {I : zI} {C : zC} {Y : Nat → Int32} {Γ : Nat → zG} {D : zD} {O : Nat → Int32} {M : zM} {ou : Nat → Int64} {od : Nat → UInt64} {j : Nat} {a0 : Int32} {a1 : Int32} {X : (Unit ⊕ String)}   (hx : fX_needPlace a0 a1 = some X) : Ev S xs 343 0 [some (.int a0), some (.int a1)] [] (zH I C Y Γ D O M ou od j) (Sum.elim (fun v => ((.inl none), (zH I C Y Γ D O M ou od j))) (fun E => (.inr E, (zH I C Y Γ D O M ou od (j + 1)))) X : (Option Value ⊕ String) × px_H) := by
  generalize hM : (Sum.elim (fun v => ((.inl none), (zH I C Y Γ D O M ou od j))) (fun E => (.inr E, (zH I C Y Γ D O M ou od (j + 1)))) X : (Option Value ⊕ String) × px_H) = y
  replace hM := hM.symm
  have hk : pt_mt[343]? = some pt_r343 := rfl
  unfold fX_needPlace at hx
  refine ev_ls (L' := [some (.int a0), some (.int a1)]) (st' := [.int a0]) (pc' := 1) hk (.iload_n 0) 1 rfl rfl rfl rfl ?_
  refine ev_cs 321 1 [.int (b2i (fX_isBand a0))] 4 hk rfl rfl (by decide) rfl rfl rfl (rX_isBand rfl) rfl rfl rfl rfl ?_
  refine ev_d1 14 7 hk rfl rfl rfl rfl (px_beq hx (fun hc hx => ?_) (fun hc hx => ?_))
  · exact rX_needPlace_j14 hx hM (some (.int a0)) rfl (some (.int a1)) rfl
  · refine ev_ls (L' := [some (.int a0), some (.int a1)]) (st' := [.int a1]) (pc' := 8) hk (.iload_n 1) 1 rfl rfl rfl rfl ?_
    refine ev_cs 324 1 [.int (b2i (fX_isMeridian a1))] 11 hk rfl rfl (by decide) rfl rfl rfl (rX_isMeridian rfl) rfl rfl rfl rfl ?_
    refine ev_d1 25 14 hk rfl rfl rfl rfl (px_bne hx (fun hc hx => ?_) (fun hc hx => ?_))
    · cases hx
      obtain rfl := hM
      exact ev_retv hk rfl rfl
    · exact rX_needPlace_j14 hx hM (some (.int a0)) rfl (some (.int a1)) rfl
set_option maxRecDepth 2000 in
theorem rI_isLetter {S : Nat} {xs : Nat → Int32} {I : zI} {C : zC} {Y : Nat → Int32} {Γ : Nat → zG} {D : zD} {O : Nat → Int32} {M : zM} {ou : Nat → Int64} {od : Nat → UInt64} {j : Nat} {a0 : Int32} {X : Bool}   (hx : fI_isLetter a0 = X) : Ev S xs 271 0 [some (.int a0)] [] (zH I C Y Γ D O M ou od j) (((.inl (some (.int (b2i X)))), (zH I C Y Γ D O M ou od j)) : (Option Value ⊕ String) × px_H) := by
  generalize hM : (((.inl (some (.int (b2i X)))), (zH I C Y Γ D O M ou od j)) : (Option Value ⊕ String) × px_H) = y
  replace hM := hM.symm
  have hk : pt_mt[271]? = some pt_r271 := rfl
  unfold fI_isLetter at hx
  refine ev_ls (L' := [some (.int a0)]) (st' := [.int a0]) (pc' := 1) hk (.iload_n 0) 1 rfl rfl rfl rfl ?_
  refine ev_op (st' := [.int 97, .int a0]) (pc' := 3) hk (.bipush 97) 2 rfl rfl rfl ?_
  refine ev_d2 16 6 hk rfl rfl rfl rfl (px_clt hx (fun hc hx => ?_) (fun hc hx => ?_))
  · refine ev_op (st' := [.int 0]) (pc' := 17) hk (.iconst 0) 1 rfl rfl rfl ?_
    cases hx
    obtain rfl := hM
    exact ev_retZ false rfl hk rfl rfl
  · refine ev_ls (L' := [some (.int a0)]) (st' := [.int a0]) (pc' := 7) hk (.iload_n 0) 1 rfl rfl rfl rfl ?_
    refine ev_op (st' := [.int 122, .int a0]) (pc' := 9) hk (.bipush 122) 2 rfl rfl rfl ?_
    refine ev_d2 16 12 hk rfl rfl rfl rfl (px_cgt hx (fun hc hx => ?_) (fun hc hx => ?_))
    · refine ev_op (st' := [.int 0]) (pc' := 17) hk (.iconst 0) 1 rfl rfl rfl ?_
      cases hx
      obtain rfl := hM
      exact ev_retZ false rfl hk rfl rfl
    · refine ev_op (st' := [.int 1]) (pc' := 13) hk (.iconst 1) 1 rfl rfl rfl ?_
      refine ev_jp (pc' := 17) (st' := [.int 1]) hk (.goto 4) 3 rfl rfl rfl rfl rfl ?_
      cases hx
      obtain rfl := hM
      exact ev_retZ true rfl hk rfl rfl
def qI_wholeWord_15 (S : Nat) (xs : Nat → Int32) (I : zI) (C : zC) (Y : Nat → Int32) (Γ : Nat → zG) (D : zD) (O : Nat → Int32) (M : zM) (ou : Nat → Int64) (od : Nat → UInt64) (j : Nat) (y : (Option Value ⊕ String) × px_H) (s : Int64 × Int32) : Prop := Ev S xs 278 15 [some (.ref 1), some (.long s.1), none, some (.int s.2)] [] (zH I C Y Γ D O M ou od j) y
set_option maxRecDepth 4000 in
theorem rI_wholeWord_b15 {S : Nat} {xs : Nat → Int32} {I : zI} {C : zC} {Y : Nat → Int32} {Γ : Nat → zG} {D : zD} {O : Nat → Int32} {M : zM} {ou : Nat → Int64} {od : Nat → UInt64} {j : Nat}  {y : (Option Value ⊕ String) × px_H} {s : Int64 × Int32} {x : (Int64 × Int32) ⊕ (Int64)}  (hx : fI_wholeWord_b15 I s.1 s.2 = some x) (hM : (Sum.elim (qI_wholeWord_15 S xs I C Y Γ D O M ou od j y) (fun X : Int64 => y = (((.inl (some (.long X))), (zH I C Y Γ D O M ou od j)) : (Option Value ⊕ String) × px_H))) x) : qI_wholeWord_15 S xs I C Y Γ D O M ou od j y s := by
  obtain ⟨a1, a3⟩ := s
  have hk : pt_mt[278]? = some pt_r278 := rfl
  unfold fI_wholeWord_b15 at hx
  try dsimp only at hx
  refine ev_ls (L' := [some (.ref 1), some (.long a1), none, some (.int a3)]) (st' := [.int a3]) (pc' := 16) hk (.iload_n 3) 1 rfl rfl rfl rfl ?_
  refine ev_ls (L' := [some (.ref 1), some (.long a1), none, some (.int a3)]) (st' := [.ref 1, .int a3]) (pc' := 17) hk (.aload_n 0) 1 rfl rfl rfl rfl ?_
  refine ev_gf (.int (iF I 1)) 20 hk rfl rfl lk_input rfl rfl ?_
  refine ev_d2 56 23 hk rfl rfl rfl rfl (px_cge hx (fun hc hx => ?_) (fun hc hx => ?_))
  · refine ev_ls (L' := [some (.ref 1), some (.long a1), none, some (.int a3)]) (st' := [.long a1]) (pc' := 57) hk (.lload_n 1) 1 rfl rfl rfl rfl ?_
    cases hx
    obtain rfl := hM
    exact ev_retL hk rfl rfl
  · refine ev_ls (L' := [some (.ref 1), some (.long a1), none, some (.int a3)]) (st' := [.ref 1]) (pc' := 24) hk (.aload_n 0) 1 rfl rfl rfl rfl ?_
    refine ev_gf (.ref 2) 27 hk rfl rfl lk_input rfl rfl ?_
    refine ev_ls (L' := [some (.ref 1), some (.long a1), none, some (.int a3)]) (st' := [.int a3, .ref 2]) (pc' := 28) hk (.iload_n 3) 1 rfl rfl rfl rfl ?_
    obtain ⟨v3, hv3, hx⟩ := bnd_some hx
    refine ev_bal hv3 29 hk rfl lk_bytes rfl ?_
    refine ev_cs 271 1 [.int (b2i (fI_isLetter v3))] 32 hk rfl rfl (by decide) rfl rfl rfl (rI_isLetter rfl) rfl rfl rfl rfl ?_
    refine ev_d1 37 35 hk rfl rfl rfl rfl (px_bne hx (fun hc hx => ?_) (fun hc hx => ?_))
    · refine ev_ls (L' := [some (.ref 1), some (.long a1), none, some (.int a3)]) (st' := [.long a1]) (pc' := 38) hk (.lload_n 1) 1 rfl rfl rfl rfl ?_
      refine ev_op (st' := [.int 8, .long a1]) (pc' := 40) hk (.bipush 8) 2 rfl rfl rfl ?_
      refine ev_op (st' := [.long (a1 <<< (Int32.toInt64 8 &&& 63))]) (pc' := 41) hk (.lshl) 1 rfl rfl rfl ?_
      refine ev_ls (L' := [some (.ref 1), some (.long a1), none, some (.int a3)]) (st' := [.ref 1, .long (a1 <<< (Int32.toInt64 8 &&& 63))]) (pc' := 42) hk (.aload_n 0) 1 rfl rfl rfl rfl ?_
      refine ev_gf (.ref 2) 45 hk rfl rfl lk_input rfl rfl ?_
      refine ev_ls (L' := [some (.ref 1), some (.long a1), none, some (.int a3)]) (st' := [.int a3, .ref 2, .long (a1 <<< (Int32.toInt64 8 &&& 63))]) (pc' := 46) hk (.iload_n 3) 1 rfl rfl rfl rfl ?_
      obtain ⟨v4, hv4, hx⟩ := bnd_some hx
      refine ev_bal hv4 47 hk rfl lk_bytes rfl ?_
      refine ev_op (st' := [.long (Int32.toInt64 v4), .long (a1 <<< (Int32.toInt64 8 &&& 63))]) (pc' := 48) hk (.i2l) 1 rfl rfl rfl ?_
      refine ev_op (st' := [.long ((a1 <<< (Int32.toInt64 8 &&& 63)) ||| (Int32.toInt64 v4))]) (pc' := 49) hk (.lor) 1 rfl rfl rfl ?_
      refine ev_ls (L' := [some (.ref 1), some (.long ((a1 <<< (Int32.toInt64 8 &&& 63)) ||| (Int32.toInt64 v4))), none, some (.int a3)]) (st' := []) (pc' := 50) hk (.lstore_n 1) 1 rfl rfl rfl rfl ?_
      refine ev_ls (L' := [some (.ref 1), some (.long ((a1 <<< (Int32.toInt64 8 &&& 63)) ||| (Int32.toInt64 v4))), none, some (.int (a3 + 1))]) (st' := []) (pc' := 53) hk (.iinc 3 1) 3 rfl rfl rfl rfl ?_
      refine ev_jp (pc' := 15) (st' := []) hk (.goto (-38)) 3 rfl rfl rfl rfl rfl ?_
      cases hx
      exact hM
    · refine ev_op (st' := [.long 0]) (pc' := 36) hk (.lconst 0) 1 rfl rfl rfl ?_
      cases hx
      obtain rfl := hM
      exact ev_retL hk rfl rfl
set_option maxRecDepth 2000 in
theorem rI_wholeWord {S : Nat} {xs : Nat → Int32} {I : zI} {C : zC} {Y : Nat → Int32} {Γ : Nat → zG} {D : zD} {O : Nat → Int32} {M : zM} {ou : Nat → Int64} {od : Nat → UInt64} {j : Nat}  {X : Int64}   (hx : fI_wholeWord I = some X) : Ev S xs 278 0 [some (.ref 1), none, none, none] [] (zH I C Y Γ D O M ou od j) (((.inl (some (.long X))), (zH I C Y Γ D O M ou od j)) : (Option Value ⊕ String) × px_H) := by
  generalize hM : (((.inl (some (.long X))), (zH I C Y Γ D O M ou od j)) : (Option Value ⊕ String) × px_H) = y
  replace hM := hM.symm
  have hk : pt_mt[278]? = some pt_r278 := rfl
  unfold fI_wholeWord at hx
  refine ev_ls (L' := [some (.ref 1), none, none, none]) (st' := [.ref 1]) (pc' := 1) hk (.aload_n 0) 1 rfl rfl rfl rfl ?_
  refine ev_gf (.int (iF I 1)) 4 hk rfl rfl lk_input rfl rfl ?_
  refine ev_op (st' := [.int 8, .int (iF I 1)]) (pc' := 6) hk (.bipush 8) 2 rfl rfl rfl ?_
  refine ev_d2 11 9 hk rfl rfl rfl rfl (px_cle hx (fun hc hx => ?_) (fun hc hx => ?_))
  · refine ev_op (st' := [.long 0]) (pc' := 12) hk (.lconst 0) 1 rfl rfl rfl ?_
    refine ev_ls (L' := [some (.ref 1), some (.long 0), none, none]) (st' := []) (pc' := 13) hk (.lstore_n 1) 1 rfl rfl rfl rfl ?_
    refine ev_op (st' := [.int 0]) (pc' := 14) hk (.iconst 0) 1 rfl rfl rfl ?_
    refine ev_ls (L' := [some (.ref 1), some (.long 0), none, some (.int 0)]) (st' := []) (pc' := 15) hk (.istore_n 3) 1 rfl rfl rfl rfl ?_
    exact ev_iter (qI_wholeWord_15 S xs I C Y Γ D O M ou od j _) (fun X : Int64 => y = (((.inl (some (.long X))), (zH I C Y Γ D O M ou od j)) : (Option Value ⊕ String) × px_H)) (fun s x hb hM => rI_wholeWord_b15 hb hM) fu _ _ hx hM 
  · refine ev_op (st' := [.long 0]) (pc' := 10) hk (.lconst 0) 1 rfl rfl rfl ?_
    cases hx
    obtain rfl := hM
    exact ev_retL hk rfl rfl
def qW_letterCount_2 (S : Nat) (xs : Nat → Int32) (I : zI) (C : zC) (Y : Nat → Int32) (Γ : Nat → zG) (D : zD) (O : Nat → Int32) (M : zM) (ou : Nat → Int64) (od : Nat → UInt64) (j : Nat) (a0 : Int64) (y : (Option Value ⊕ String) × px_H) (s : Int32) : Prop := Ev S xs 299 2 [some (.long a0), none, some (.int s)] [] (zH I C Y Γ D O M ou od j) y
set_option maxRecDepth 4000 in
theorem rW_letterCount_b2 {S : Nat} {xs : Nat → Int32} {I : zI} {C : zC} {Y : Nat → Int32} {Γ : Nat → zG} {D : zD} {O : Nat → Int32} {M : zM} {ou : Nat → Int64} {od : Nat → UInt64} {j : Nat} {a0 : Int64} {y : (Option Value ⊕ String) × px_H} {s : Int32} {x : (Int32) ⊕ (Int32)}  (hx : fW_letterCount_b2 a0 s = some x) (hM : (Sum.elim (qW_letterCount_2 S xs I C Y Γ D O M ou od j a0 y) (fun X : Int32 => y = (((.inl (some (.int X))), (zH I C Y Γ D O M ou od j)) : (Option Value ⊕ String) × px_H))) x) : qW_letterCount_2 S xs I C Y Γ D O M ou od j a0 y s := by
  revert hx
  generalize s = a2
  intro hx
  have hk : pt_mt[299]? = some pt_r299 := rfl
  unfold fW_letterCount_b2 at hx
  try dsimp only at hx
  refine ev_ls (L' := [some (.long a0), none, some (.int a2)]) (st' := [.int a2]) (pc' := 3) hk (.iload_n 2) 1 rfl rfl rfl rfl ?_
  refine ev_op (st' := [.int 8, .int a2]) (pc' := 5) hk (.bipush 8) 2 rfl rfl rfl ?_
  refine ev_d2 25 8 hk rfl rfl rfl rfl (px_cge hx (fun hc hx => ?_) (fun hc hx => ?_))
  · refine ev_ls (L' := [some (.long a0), none, some (.int a2)]) (st' := [.int a2]) (pc' := 26) hk (.iload_n 2) 1 rfl rfl rfl rfl ?_
    cases hx
    obtain rfl := hM
    exact ev_retI hk rfl rfl
  · refine ev_ls (L' := [some (.long a0), none, some (.int a2)]) (st' := [.long a0]) (pc' := 9) hk (.lload_n 0) 1 rfl rfl rfl rfl ?_
    refine ev_op (st' := [.int 8, .long a0]) (pc' := 11) hk (.bipush 8) 2 rfl rfl rfl ?_
    refine ev_ls (L' := [some (.long a0), none, some (.int a2)]) (st' := [.int a2, .int 8, .long a0]) (pc' := 12) hk (.iload_n 2) 1 rfl rfl rfl rfl ?_
    refine ev_op (st' := [.int (8 * a2), .long a0]) (pc' := 13) hk (.imul) 1 rfl rfl rfl ?_
    refine ev_op (st' := [.long (Int64.toUInt64 a0 >>> ((Int32.toInt64 (8 * a2)).toUInt64 &&& Int64.toUInt64 63)).toInt64]) (pc' := 14) hk (.lushr) 1 rfl rfl rfl ?_
    refine ev_op (st' := [.long 0, .long (Int64.toUInt64 a0 >>> ((Int32.toInt64 (8 * a2)).toUInt64 &&& Int64.toUInt64 63)).toInt64]) (pc' := 15) hk (.lconst 0) 1 rfl rfl rfl ?_
    refine ev_op (st' := [.int (lg_cmp (Int64.toUInt64 a0 >>> ((Int32.toInt64 (8 * a2)).toUInt64 &&& Int64.toUInt64 63)).toInt64 0)]) (pc' := 16) hk (.lcmp) 1 rfl rfl rfl ?_
    refine ev_d1 25 19 hk rfl rfl rfl rfl (px_leq hx (fun hc hx => ?_) (fun hc hx => ?_))
    · refine ev_ls (L' := [some (.long a0), none, some (.int a2)]) (st' := [.int a2]) (pc' := 26) hk (.iload_n 2) 1 rfl rfl rfl rfl ?_
      cases hx
      obtain rfl := hM
      exact ev_retI hk rfl rfl
    · refine ev_ls (L' := [some (.long a0), none, some (.int (a2 + 1))]) (st' := []) (pc' := 22) hk (.iinc 2 1) 3 rfl rfl rfl rfl ?_
      refine ev_jp (pc' := 2) (st' := []) hk (.goto (-20)) 3 rfl rfl rfl rfl rfl ?_
      cases hx
      exact hM
set_option maxRecDepth 2000 in
theorem rW_letterCount {S : Nat} {xs : Nat → Int32} {I : zI} {C : zC} {Y : Nat → Int32} {Γ : Nat → zG} {D : zD} {O : Nat → Int32} {M : zM} {ou : Nat → Int64} {od : Nat → UInt64} {j : Nat} {a0 : Int64} {X : Int32}   (hx : fW_letterCount a0 = some X) : Ev S xs 299 0 [some (.long a0), none, none] [] (zH I C Y Γ D O M ou od j) (((.inl (some (.int X))), (zH I C Y Γ D O M ou od j)) : (Option Value ⊕ String) × px_H) := by
  generalize hM : (((.inl (some (.int X))), (zH I C Y Γ D O M ou od j)) : (Option Value ⊕ String) × px_H) = y
  replace hM := hM.symm
  have hk : pt_mt[299]? = some pt_r299 := rfl
  unfold fW_letterCount at hx
  refine ev_op (st' := [.int 0]) (pc' := 1) hk (.iconst 0) 1 rfl rfl rfl ?_
  refine ev_ls (L' := [some (.long a0), none, some (.int 0)]) (st' := []) (pc' := 2) hk (.istore_n 2) 1 rfl rfl rfl rfl ?_
  exact ev_iter (qW_letterCount_2 S xs I C Y Γ D O M ou od j a0 _) (fun X : Int32 => y = (((.inl (some (.int X))), (zH I C Y Γ D O M ou od j)) : (Option Value ⊕ String) × px_H)) (fun s x hb hM => rW_letterCount_b2 hb hM) fu _ _ hx hM 
set_option maxRecDepth 2000 in
theorem rG_hasRoomForLabel {S : Nat} {xs : Nat → Int32} {I : zI} {C : zC} {Y : Nat → Int32} {Γ : Nat → zG} {D : zD} {O : Nat → Int32} {M : zM} {ou : Nat → Int64} {od : Nat → UInt64} {j : Nat} {g : Nat} {G : zG}  {X : Bool}  (hg : isG g) (hx : fG_hasRoomForLabel G = X) : Ev S xs 222 0 [some (.ref g)] [] (zH I C Y (gup Γ g G) D O M ou od j) (((.inl (some (.int (b2i X)))), (zH I C Y (gup Γ g G) D O M ou od j)) : (Option Value ⊕ String) × px_H) := by
  generalize hM : (((.inl (some (.int (b2i X)))), (zH I C Y (gup Γ g G) D O M ou od j)) : (Option Value ⊕ String) × px_H) = y
  replace hM := hM.symm
  have hk : pt_mt[222]? = some pt_r222 := rfl
  unfold fG_hasRoomForLabel at hx
  refine ev_ls (L' := [some (.ref g)]) (st' := [.ref g]) (pc' := 1) hk (.aload_n 0) 1 rfl rfl rfl rfl ?_
  refine ev_gf (.int (gF G 0 6)) 4 hk rfl rfl (lk_globe hg gup_same) rfl rfl ?_
  refine ev_op (st' := [.int 8, .int (gF G 0 6)]) (pc' := 6) hk (.bipush 8) 2 rfl rfl rfl ?_
  refine ev_d2 13 9 hk rfl rfl rfl rfl (px_cge hx (fun hc hx => ?_) (fun hc hx => ?_))
  · refine ev_op (st' := [.int 0]) (pc' := 14) hk (.iconst 0) 1 rfl rfl rfl ?_
    cases hx
    obtain rfl := hM
    exact ev_retZ false rfl hk rfl rfl
  · refine ev_op (st' := [.int 1]) (pc' := 10) hk (.iconst 1) 1 rfl rfl rfl ?_
    refine ev_jp (pc' := 14) (st' := [.int 1]) hk (.goto 4) 3 rfl rfl rfl rfl rfl ?_
    cases hx
    obtain rfl := hM
    exact ev_retZ true rfl hk rfl rfl
set_option maxRecDepth 2000 in
theorem rG_lastOf {S : Nat} {xs : Nat → Int32} {I : zI} {C : zC} {Y : Nat → Int32} {Γ : Nat → zG} {D : zD} {O : Nat → Int32} {M : zM} {ou : Nat → Int64} {od : Nat → UInt64} {j : Nat} {a0 : Int32} {a1 : Int32} {a2 : Int32} {X : Int32}   (hx : fG_lastOf a0 a1 a2 = X) : Ev S xs 233 0 [some (.int a0), some (.int a1), some (.int a2)] [] (zH I C Y Γ D O M ou od j) (((.inl (some (.int X))), (zH I C Y Γ D O M ou od j)) : (Option Value ⊕ String) × px_H) := by
  generalize hM : (((.inl (some (.int X))), (zH I C Y Γ D O M ou od j)) : (Option Value ⊕ String) × px_H) = y
  replace hM := hM.symm
  have hk : pt_mt[233]? = some pt_r233 := rfl
  unfold fG_lastOf at hx
  refine ev_ls (L' := [some (.int a0), some (.int a1), some (.int a2)]) (st' := [.int a2]) (pc' := 1) hk (.iload_n 2) 1 rfl rfl rfl rfl ?_
  refine ev_ls (L' := [some (.int a0), some (.int a1), some (.int a2)]) (st' := [.int a0, .int a2]) (pc' := 2) hk (.iload_n 0) 1 rfl rfl rfl rfl ?_
  refine ev_op (st' := [.int 3, .int a0, .int a2]) (pc' := 3) hk (.iconst 3) 1 rfl rfl rfl ?_
  refine ev_ls (L' := [some (.int a0), some (.int a1), some (.int a2)]) (st' := [.int a1, .int 3, .int a0, .int a2]) (pc' := 4) hk (.iload_n 1) 1 rfl rfl rfl rfl ?_
  refine ev_op (st' := [.int 4, .int a1, .int 3, .int a0, .int a2]) (pc' := 5) hk (.iconst 4) 1 rfl rfl rfl ?_
  refine ev_op (st' := [.int (a1 - 4), .int 3, .int a0, .int a2]) (pc' := 6) hk (.isub) 1 rfl rfl rfl ?_
  refine ev_cs 0 1 [.int (fJ_abs_0f7a4 (a1 - 4)), .int 3, .int a0, .int a2] 9 hk rfl rfl (by decide) rfl rfl rfl (rJ_abs_0f7a4 rfl) rfl rfl rfl rfl ?_
  refine ev_op (st' := [.int (3 + (fJ_abs_0f7a4 (a1 - 4))), .int a0, .int a2]) (pc' := 10) hk (.iadd) 1 rfl rfl rfl ?_
  refine ev_op (st' := [.int (a0 * (3 + (fJ_abs_0f7a4 (a1 - 4)))), .int a2]) (pc' := 11) hk (.imul) 1 rfl rfl rfl ?_
  refine ev_op (st' := [.int (a2 + (a0 * (3 + (fJ_abs_0f7a4 (a1 - 4)))))]) (pc' := 12) hk (.iadd) 1 rfl rfl rfl ?_
  refine ev_op (st' := [.int 1, .int (a2 + (a0 * (3 + (fJ_abs_0f7a4 (a1 - 4)))))]) (pc' := 13) hk (.iconst 1) 1 rfl rfl rfl ?_
  refine ev_op (st' := [.int ((a2 + (a0 * (3 + (fJ_abs_0f7a4 (a1 - 4))))) - 1)]) (pc' := 14) hk (.isub) 1 rfl rfl rfl ?_
  cases hx
  obtain rfl := hM
  exact ev_retI hk rfl rfl
def qG_labelHindrance_66 (S : Nat) (xs : Nat → Int32) (I : zI) (C : zC) (Y : Nat → Int32) (Γ : Nat → zG) (D : zD) (O : Nat → Int32) (M : zM) (ou : Nat → Int64) (od : Nat → UInt64) (j : Nat) (g : Nat) (G : zG) (a4 : Int32) (y : (Option Value ⊕ String) × px_H) (s : Int32) : Prop := ∀ (u1 : Option Value) (hu1 : px_cz u1 = true) (u2 : Option Value) (hu2 : px_cz u2 = true) (u3 : Option Value) (hu3 : px_cz u3 = true), Ev S xs 231 66 [some (.ref g), u1, u2, u3, some (.int a4), some (.int s)] [] (zH I C Y (gup Γ g G) D O M ou od j) y
set_option maxRecDepth 4000 in
theorem rG_labelHindrance_b66 {S : Nat} {xs : Nat → Int32} {I : zI} {C : zC} {Y : Nat → Int32} {Γ : Nat → zG} {D : zD} {O : Nat → Int32} {M : zM} {ou : Nat → Int64} {od : Nat → UInt64} {j : Nat} {g : Nat} {G : zG} {a4 : Int32} {y : (Option Value ⊕ String) × px_H} {s : Int32} {x : (Int32) ⊕ (Int32)} (hg : isG g) (hx : fG_labelHindrance_b66 G a4 s = some x) (hM : (Sum.elim (qG_labelHindrance_66 S xs I C Y Γ D O M ou od j g G a4 y) (fun X : Int32 => y = (((.inl (some (.int X))), (zH I C Y (gup Γ g G) D O M ou od j)) : (Option Value ⊕ String) × px_H))) x) : qG_labelHindrance_66 S xs I C Y Γ D O M ou od j g G a4 y s := by
  revert hx
  generalize s = a5
  intro hx
  intro u1 hu1 u2 hu2 u3 hu3
  have hk : pt_mt[231]? = some pt_r231 := rfl
  unfold fG_labelHindrance_b66 at hx
  try dsimp only at hx
  refine ev_ls (L' := [some (.ref g), u1, u2, u3, some (.int a4), some (.int a5)]) (st' := [.int a5]) (pc' := 68) hk (.iload 5) 2 rfl rfl rfl rfl ?_
  refine ev_ls (L' := [some (.ref g), u1, u2, u3, some (.int a4), some (.int a5)]) (st' := [.int a4, .int a5]) (pc' := 70) hk (.iload 4) 2 rfl rfl rfl rfl ?_
  refine ev_d2 93 73 hk rfl rfl rfl rfl (px_cgt hx (fun hc hx => ?_) (fun hc hx => ?_))
  · refine ev_op (st' := [.int 0]) (pc' := 94) hk (.iconst 0) 1 rfl rfl rfl ?_
    cases hx
    obtain rfl := hM
    exact ev_retI hk rfl rfl
  · refine ev_ls (L' := [some (.ref g), u1, u2, u3, some (.int a4), some (.int a5)]) (st' := [.ref g]) (pc' := 74) hk (.aload_n 0) 1 rfl rfl rfl rfl ?_
    refine ev_gf (.ref (g + 1)) 77 hk rfl rfl (lk_globe hg gup_same) rfl rfl ?_
    refine ev_ls (L' := [some (.ref g), u1, u2, u3, some (.int a4), some (.int a5)]) (st' := [.int a5, .ref (g + 1)]) (pc' := 79) hk (.iload 5) 2 rfl rfl rfl rfl ?_
    obtain ⟨v3, hc4, hx⟩ := bnd_some hx
    refine ev_cv 12 1 [.int (b2i v3)] 82 hk rfl rfl rfl rfl (lk_cloth hg gup_same) rfl rfl rfl (rC_isTornAt hg hc4) rfl rfl rfl rfl ?_
    refine ev_d1 87 85 hk rfl rfl rfl rfl (px_beq hx (fun hc hx => ?_) (fun hc hx => ?_))
    · refine ev_ls (L' := [some (.ref g), u1, u2, u3, some (.int a4), some (.int (a5 + 1))]) (st' := []) (pc' := 90) hk (.iinc 5 1) 3 rfl rfl rfl rfl ?_
      refine ev_jp (pc' := 66) (st' := []) hk (.goto (-24)) 3 rfl rfl rfl rfl rfl ?_
      cases hx
      exact hM u1 hu1 u2 hu2 u3 hu3
    · refine ev_op (st' := [.int 5]) (pc' := 86) hk (.iconst 5) 1 rfl rfl rfl ?_
      cases hx
      obtain rfl := hM
      exact ev_retI hk rfl rfl
set_option maxRecDepth 4000 in
theorem rG_labelHindrance_j61 {S : Nat} {xs : Nat → Int32} {I : zI} {C : zC} {Y : Nat → Int32} {Γ : Nat → zG} {D : zD} {O : Nat → Int32} {M : zM} {ou : Nat → Int64} {od : Nat → UInt64} {j : Nat} {g : Nat} {G : zG} {a3 : Int32} {a4 : Int32} {y : (Option Value ⊕ String) × px_H} {x : Int32} (hg : isG g) (hx : fG_labelHindrance_j61 G a3 a4 = some x) (hM : (fun X : Int32 => y = (((.inl (some (.int X))), (zH I C Y (gup Γ g G) D O M ou od j)) : (Option Value ⊕ String) × px_H)) x) (u1 : Option Value) (hu1 : px_cz u1 = true) (u2 : Option Value) (hu2 : px_cz u2 = true) : Ev S xs 231 61 [some (.ref g), u1, u2, some (.int a3), some (.int a4), none] [] (zH I C Y (gup Γ g G) D O M ou od j) y := by
  have hk : pt_mt[231]? = some pt_r231 := rfl
  unfold fG_labelHindrance_j61 at hx
  refine ev_ls (L' := [some (.ref g), u1, u2, some (.int a3), some (.int a4), none]) (st' := [.int a3]) (pc' := 62) hk (.iload_n 3) 1 rfl rfl rfl rfl ?_
  refine ev_op (st' := [.int 1, .int a3]) (pc' := 63) hk (.iconst 1) 1 rfl rfl rfl ?_
  refine ev_op (st' := [.int (a3 + 1)]) (pc' := 64) hk (.iadd) 1 rfl rfl rfl ?_
  refine ev_ls (L' := [some (.ref g), u1, u2, some (.int a3), some (.int a4), some (.int (a3 + 1))]) (st' := []) (pc' := 66) hk (.istore 5) 2 rfl rfl rfl rfl ?_
  exact ev_iter (qG_labelHindrance_66 S xs I C Y Γ D O M ou od j g G a4 _) (fun X : Int32 => y = (((.inl (some (.int X))), (zH I C Y (gup Γ g G) D O M ou od j)) : (Option Value ⊕ String) × px_H)) (fun s x hb hM => rG_labelHindrance_b66 hg hb hM) fu _ _ hx hM u1 hu1 u2 hu2 (some (.int a3)) rfl
set_option maxRecDepth 2000 in
theorem rG_labelHindrance {S : Nat} {xs : Nat → Int32} {I : zI} {C : zC} {Y : Nat → Int32} {Γ : Nat → zG} {D : zD} {O : Nat → Int32} {M : zM} {ou : Nat → Int64} {od : Nat → UInt64} {j : Nat} {g : Nat} {G : zG} {a1 : Int32} {a2 : Int32} {a3 : Int32} {X : Int32}  (hg : isG g) (hx : fG_labelHindrance G a1 a2 a3 = some X) : Ev S xs 231 0 [some (.ref g), some (.int a1), some (.int a2), some (.int a3), none, none] [] (zH I C Y (gup Γ g G) D O M ou od j) (((.inl (some (.int X))), (zH I C Y (gup Γ g G) D O M ou od j)) : (Option Value ⊕ String) × px_H) := by
  generalize hM : (((.inl (some (.int X))), (zH I C Y (gup Γ g G) D O M ou od j)) : (Option Value ⊕ String) × px_H) = y
  replace hM := hM.symm
  have hk : pt_mt[231]? = some pt_r231 := rfl
  unfold fG_labelHindrance at hx
  refine ev_ls (L' := [some (.ref g), some (.int a1), some (.int a2), some (.int a3), none, none]) (st' := [.int a1]) (pc' := 1) hk (.iload_n 1) 1 rfl rfl rfl rfl ?_
  refine ev_ls (L' := [some (.ref g), some (.int a1), some (.int a2), some (.int a3), none, none]) (st' := [.int a2, .int a1]) (pc' := 2) hk (.iload_n 2) 1 rfl rfl rfl rfl ?_
  refine ev_ls (L' := [some (.ref g), some (.int a1), some (.int a2), some (.int a3), none, none]) (st' := [.int a3, .int a2, .int a1]) (pc' := 3) hk (.iload_n 3) 1 rfl rfl rfl rfl ?_
  refine ev_cs 233 3 [.int (fG_lastOf a1 a2 a3)] 6 hk rfl rfl (by decide) rfl rfl rfl (rG_lastOf rfl) rfl rfl rfl rfl ?_
  refine ev_ls (L' := [some (.ref g), some (.int a1), some (.int a2), some (.int a3), some (.int (fG_lastOf a1 a2 a3)), none]) (st' := []) (pc' := 8) hk (.istore 4) 2 rfl rfl rfl rfl ?_
  refine ev_ls (L' := [some (.ref g), some (.int a1), some (.int a2), some (.int a3), some (.int (fG_lastOf a1 a2 a3)), none]) (st' := [.int a1]) (pc' := 9) hk (.iload_n 1) 1 rfl rfl rfl rfl ?_
  refine ev_d1 14 12 hk rfl rfl rfl rfl (px_cne hx (fun hc hx => ?_) (fun hc hx => ?_))
  · refine ev_ls (L' := [some (.ref g), some (.int a1), some (.int a2), some (.int a3), some (.int (fG_lastOf a1 a2 a3)), none]) (st' := [.int (fG_lastOf a1 a2 a3)]) (pc' := 16) hk (.iload 4) 2 rfl rfl rfl rfl ?_
    refine ev_op (st' := [.int 360, .int (fG_lastOf a1 a2 a3)]) (pc' := 19) hk (.sipush 360) 3 rfl rfl rfl ?_
    refine ev_d2 24 22 hk rfl rfl rfl rfl (px_clt hx (fun hc hx => ?_) (fun hc hx => ?_))
    · refine ev_ls (L' := [some (.ref g), some (.int a1), some (.int a2), some (.int a3), some (.int (fG_lastOf a1 a2 a3)), none]) (st' := [.ref g]) (pc' := 25) hk (.aload_n 0) 1 rfl rfl rfl rfl ?_
      refine ev_ls (L' := [some (.ref g), some (.int a1), some (.int a2), some (.int a3), some (.int (fG_lastOf a1 a2 a3)), none]) (st' := [.int a2, .ref g]) (pc' := 26) hk (.iload_n 2) 1 rfl rfl rfl rfl ?_
      refine ev_ls (L' := [some (.ref g), some (.int a1), some (.int a2), some (.int a3), some (.int (fG_lastOf a1 a2 a3)), none]) (st' := [.int a3, .int a2, .ref g]) (pc' := 27) hk (.iload_n 3) 1 rfl rfl rfl rfl ?_
      refine ev_ls (L' := [some (.ref g), some (.int a1), some (.int a2), some (.int a3), some (.int (fG_lastOf a1 a2 a3)), none]) (st' := [.int (fG_lastOf a1 a2 a3), .int a3, .int a2, .ref g]) (pc' := 29) hk (.iload 4) 2 rfl rfl rfl rfl ?_
      obtain ⟨v5, hc6, hx⟩ := bnd_some hx
      refine ev_cv 232 3 [.int v5] 32 hk rfl rfl rfl rfl (lk_globe hg gup_same) rfl rfl rfl (rG_labelMeeting hg hc6) rfl rfl rfl rfl ?_
      refine ev_op (st' := [.int (-1), .int v5]) (pc' := 33) hk (.iconst (-1)) 1 rfl rfl rfl ?_
      refine ev_d2 38 36 hk rfl rfl rfl rfl (px_ceq hx (fun hc hx => ?_) (fun hc hx => ?_))
      · refine ev_ls (L' := [some (.ref g), some (.int a1), some (.int a2), some (.int a3), some (.int (fG_lastOf a1 a2 a3)), none]) (st' := [.int a3]) (pc' := 39) hk (.iload_n 3) 1 rfl rfl rfl rfl ?_
        refine ev_ls (L' := [some (.ref g), some (.int a1), some (.int a2), some (.int a3), some (.int (fG_lastOf a1 a2 a3)), none]) (st' := [.ref g, .int a3]) (pc' := 40) hk (.aload_n 0) 1 rfl rfl rfl rfl ?_
        refine ev_gf (.ref (g + 5)) 43 hk rfl rfl (lk_globe hg gup_same) rfl rfl ?_
        refine ev_ls (L' := [some (.ref g), some (.int a1), some (.int a2), some (.int a3), some (.int (fG_lastOf a1 a2 a3)), none]) (st' := [.int a2, .ref (g + 5), .int a3]) (pc' := 44) hk (.iload_n 2) 1 rfl rfl rfl rfl ?_
        obtain ⟨v7, hv7, hx⟩ := bnd_some hx
        refine ev_ial hv7 45 hk rfl (lk_a5 hg gup_same) rfl ?_
        refine ev_d2 61 48 hk rfl rfl rfl rfl (px_cge hx (fun hc hx => ?_) (fun hc hx => ?_))
        · exact rG_labelHindrance_j61 hg hx hM (some (.int a1)) rfl (some (.int a2)) rfl
        · refine ev_ls (L' := [some (.ref g), some (.int a1), some (.int a2), some (.int a3), some (.int (fG_lastOf a1 a2 a3)), none]) (st' := [.ref g]) (pc' := 49) hk (.aload_n 0) 1 rfl rfl rfl rfl ?_
          refine ev_gf (.ref (g + 5)) 52 hk rfl rfl (lk_globe hg gup_same) rfl rfl ?_
          refine ev_ls (L' := [some (.ref g), some (.int a1), some (.int a2), some (.int a3), some (.int (fG_lastOf a1 a2 a3)), none]) (st' := [.int a2, .ref (g + 5)]) (pc' := 53) hk (.iload_n 2) 1 rfl rfl rfl rfl ?_
          obtain ⟨v8, hv8, hx⟩ := bnd_some hx
          refine ev_ial hv8 54 hk rfl (lk_a5 hg gup_same) rfl ?_
          refine ev_ls (L' := [some (.ref g), some (.int a1), some (.int a2), some (.int a3), some (.int (fG_lastOf a1 a2 a3)), none]) (st' := [.int (fG_lastOf a1 a2 a3), .int v8]) (pc' := 56) hk (.iload 4) 2 rfl rfl rfl rfl ?_
          refine ev_d2 61 59 hk rfl rfl rfl rfl (px_cgt hx (fun hc hx => ?_) (fun hc hx => ?_))
          · exact rG_labelHindrance_j61 hg hx hM (some (.int a1)) rfl (some (.int a2)) rfl
          · refine ev_op (st' := [.int 4]) (pc' := 60) hk (.iconst 4) 1 rfl rfl rfl ?_
            cases hx
            obtain rfl := hM
            exact ev_retI hk rfl rfl
      · refine ev_op (st' := [.int 3]) (pc' := 37) hk (.iconst 3) 1 rfl rfl rfl ?_
        cases hx
        obtain rfl := hM
        exact ev_retI hk rfl rfl
    · refine ev_op (st' := [.int 2]) (pc' := 23) hk (.iconst 2) 1 rfl rfl rfl ?_
      cases hx
      obtain rfl := hM
      exact ev_retI hk rfl rfl
  · refine ev_op (st' := [.int 1]) (pc' := 13) hk (.iconst 1) 1 rfl rfl rfl ?_
    cases hx
    obtain rfl := hM
    exact ev_retI hk rfl rfl
set_option maxRecDepth 2000 in
theorem rG_sewLabelOn {S : Nat} {xs : Nat → Int32} {I : zI} {C : zC} {Y : Nat → Int32} {Γ : Nat → zG} {D : zD} {O : Nat → Int32} {M : zM} {ou : Nat → Int64} {od : Nat → UInt64} {j : Nat} {g : Nat} {G : zG} {a1 : Int32} {a2 : Int32} {a3 : Int32} {X : Int32 × zG}  (hg : isG g) (hx : fG_sewLabelOn G a1 a2 a3 = some X) : Ev S xs 246 0 [some (.ref g), some (.int a1), some (.int a2), some (.int a3), none] [] (zH I C Y (gup Γ g G) D O M ou od j) (((.inl (some (.int X.1))), (zH I C Y (gup Γ g X.2) D O M ou od j)) : (Option Value ⊕ String) × px_H) := by
  generalize hM : (((.inl (some (.int X.1))), (zH I C Y (gup Γ g X.2) D O M ou od j)) : (Option Value ⊕ String) × px_H) = y
  replace hM := hM.symm
  have hk : pt_mt[246]? = some pt_r246 := rfl
  unfold fG_sewLabelOn at hx
  refine ev_ls (L' := [some (.ref g), some (.int a1), some (.int a2), some (.int a3), none]) (st' := [.ref g]) (pc' := 1) hk (.aload_n 0) 1 rfl rfl rfl rfl ?_
  refine ev_cv 222 0 [.int (b2i (fG_hasRoomForLabel G))] 4 hk rfl rfl rfl rfl (lk_globe hg gup_same) rfl rfl rfl (rG_hasRoomForLabel hg rfl) rfl rfl rfl rfl ?_
  refine ev_d1 9 7 hk rfl rfl rfl rfl (px_bne hx (fun hc hx => ?_) (fun hc hx => ?_))
  · refine ev_ls (L' := [some (.ref g), some (.int a1), some (.int a2), some (.int a3), none]) (st' := [.ref g]) (pc' := 10) hk (.aload_n 0) 1 rfl rfl rfl rfl ?_
    refine ev_gf (.ref (g + 17)) 13 hk rfl rfl (lk_globe hg gup_same) rfl rfl ?_
    refine ev_ls (L' := [some (.ref g), some (.int a1), some (.int a2), some (.int a3), none]) (st' := [.ref g, .ref (g + 17)]) (pc' := 14) hk (.aload_n 0) 1 rfl rfl rfl rfl ?_
    refine ev_gf (.int (gF G 0 6)) 17 hk rfl rfl (lk_globe hg gup_same) rfl rfl ?_
    obtain ⟨p7, hp7, hx⟩ := bnd_some hx
    have hpp7 := rix_lt hp7
    refine ev_aal (g + (18 + p7)) hp7 18 hk rfl (lk_labels hg gup_same) (by decide) (lk_la hpp7) rfl ?_
    refine ev_ls (L' := [some (.ref g), some (.int a1), some (.int a2), some (.int a3), some (.ref (g + (18 + p7)))]) (st' := []) (pc' := 20) hk (.astore 4) 2 rfl rfl rfl rfl ?_
    refine ev_ls (L' := [some (.ref g), some (.int a1), some (.int a2), some (.int a3), some (.ref (g + (18 + p7)))]) (st' := [.ref (g + (18 + p7))]) (pc' := 22) hk (.aload 4) 2 rfl rfl rfl rfl ?_
    refine ev_ls (L' := [some (.ref g), some (.int a1), some (.int a2), some (.int a3), some (.ref (g + (18 + p7)))]) (st' := [.int a2, .ref (g + (18 + p7))]) (pc' := 23) hk (.iload_n 2) 1 rfl rfl rfl rfl ?_
    obtain ⟨G8, hG8, hx⟩ := bnd_some hx
    have hG8 := Option.some.inj hG8
    refine ev_pf 26 hk rfl rfl (lk_label hg hpp7 gup_same) rfl rfl rfl (sf_4_0 hg hpp7 gup_same hG8 gup_gup) rfl ?_
    refine ev_ls (L' := [some (.ref g), some (.int a1), some (.int a2), some (.int a3), some (.ref (g + (18 + p7)))]) (st' := [.ref (g + (18 + p7))]) (pc' := 28) hk (.aload 4) 2 rfl rfl rfl rfl ?_
    refine ev_ls (L' := [some (.ref g), some (.int a1), some (.int a2), some (.int a3), some (.ref (g + (18 + p7)))]) (st' := [.int a3, .ref (g + (18 + p7))]) (pc' := 29) hk (.iload_n 3) 1 rfl rfl rfl rfl ?_
    obtain ⟨G9, hG9, hx⟩ := bnd_some hx
    have hG9 := Option.some.inj hG9
    refine ev_pf 32 hk rfl rfl (lk_label hg hpp7 gup_same) rfl rfl rfl (sf_4_1 hg hpp7 gup_same hG9 gup_gup) rfl ?_
    refine ev_ls (L' := [some (.ref g), some (.int a1), some (.int a2), some (.int a3), some (.ref (g + (18 + p7)))]) (st' := [.ref (g + (18 + p7))]) (pc' := 34) hk (.aload 4) 2 rfl rfl rfl rfl ?_
    refine ev_ls (L' := [some (.ref g), some (.int a1), some (.int a2), some (.int a3), some (.ref (g + (18 + p7)))]) (st' := [.int a1, .ref (g + (18 + p7))]) (pc' := 35) hk (.iload_n 1) 1 rfl rfl rfl rfl ?_
    refine ev_ls (L' := [some (.ref g), some (.int a1), some (.int a2), some (.int a3), some (.ref (g + (18 + p7)))]) (st' := [.int a2, .int a1, .ref (g + (18 + p7))]) (pc' := 36) hk (.iload_n 2) 1 rfl rfl rfl rfl ?_
    refine ev_ls (L' := [some (.ref g), some (.int a1), some (.int a2), some (.int a3), some (.ref (g + (18 + p7)))]) (st' := [.int a3, .int a2, .int a1, .ref (g + (18 + p7))]) (pc' := 37) hk (.iload_n 3) 1 rfl rfl rfl rfl ?_
    refine ev_cs 233 3 [.int (fG_lastOf a1 a2 a3), .ref (g + (18 + p7))] 40 hk rfl rfl (by decide) rfl rfl rfl (rG_lastOf rfl) rfl rfl rfl rfl ?_
    obtain ⟨G10, hG10, hx⟩ := bnd_some hx
    have hG10 := Option.some.inj hG10
    refine ev_pf 43 hk rfl rfl (lk_label hg hpp7 gup_same) rfl rfl rfl (sf_4_2 hg hpp7 gup_same hG10 gup_gup) rfl ?_
    refine ev_ls (L' := [some (.ref g), some (.int a1), some (.int a2), some (.int a3), some (.ref (g + (18 + p7)))]) (st' := [.ref (g + (18 + p7))]) (pc' := 45) hk (.aload 4) 2 rfl rfl rfl rfl ?_
    refine ev_op (st' := [.int 0, .ref (g + (18 + p7))]) (pc' := 46) hk (.iconst 0) 1 rfl rfl rfl ?_
    obtain ⟨G11, hG11, hx⟩ := bnd_some hx
    have hG11 := Option.some.inj hG11
    refine ev_pf 49 hk rfl rfl (lk_label hg hpp7 gup_same) rfl rfl rfl (sf_4_3 hg hpp7 gup_same hG11 gup_gup) rfl ?_
    refine ev_ls (L' := [some (.ref g), some (.int a1), some (.int a2), some (.int a3), some (.ref (g + (18 + p7)))]) (st' := [.ref g]) (pc' := 50) hk (.aload_n 0) 1 rfl rfl rfl rfl ?_
    refine ev_op (st' := [.ref g, .ref g]) (pc' := 51) hk (.dup) 1 rfl rfl rfl ?_
    refine ev_gf (.int (gF G11 0 6)) 54 hk rfl rfl (lk_globe hg gup_same) rfl rfl ?_
    refine ev_op (st' := [.int 1, .int (gF G11 0 6), .ref g]) (pc' := 55) hk (.iconst 1) 1 rfl rfl rfl ?_
    refine ev_op (st' := [.int ((gF G11 0 6) + 1), .ref g]) (pc' := 56) hk (.iadd) 1 rfl rfl rfl ?_
    obtain ⟨G12, hG12, hx⟩ := bnd_some hx
    have hG12 := Option.some.inj hG12
    refine ev_pf 59 hk rfl rfl (lk_globe hg gup_same) rfl rfl rfl (sf_1_6 hg  gup_same hG12 gup_gup) rfl ?_
    refine ev_ls (L' := [some (.ref g), some (.int a1), some (.int a2), some (.int a3), some (.ref (g + (18 + p7)))]) (st' := [.ref g]) (pc' := 60) hk (.aload_n 0) 1 rfl rfl rfl rfl ?_
    refine ev_gf (.int (gF G12 0 6)) 63 hk rfl rfl (lk_globe hg gup_same) rfl rfl ?_
    refine ev_op (st' := [.int 1, .int (gF G12 0 6)]) (pc' := 64) hk (.iconst 1) 1 rfl rfl rfl ?_
    refine ev_op (st' := [.int ((gF G12 0 6) - 1)]) (pc' := 65) hk (.isub) 1 rfl rfl rfl ?_
    cases hx
    obtain rfl := hM
    exact ev_retI hk rfl rfl
  · refine ev_op (st' := [.int (-1)]) (pc' := 8) hk (.iconst (-1)) 1 rfl rfl rfl ?_
    cases hx
    obtain rfl := hM
    exact ev_retI hk rfl rfl
set_option maxRecDepth 4000 in
theorem rX_addLabel_j39 {S : Nat} {xs : Nat → Int32} {I : zI} {C : zC} {Y : Nat → Int32} {Γ : Nat → zG} {D : zD} {O : Nat → Int32} {M : zM} {ou : Nat → Int64} {od : Nat → UInt64} {j : Nat}  {y : (Option Value ⊕ String) × px_H} {x : (Int32 ⊕ String) × zI × (Nat → Int32) × (Nat → zG)}  (hx : fX_addLabel_j39 I Y Γ = some x) (hM : (fun X : (Int32 ⊕ String) × zI × (Nat → Int32) × (Nat → zG) => y = (Sum.elim (fun v => ((.inl (some (.int v))), (zH X.2.1 C X.2.2.1 X.2.2.2 D O M ou od j))) (fun E => (.inr E, (zH X.2.1 C X.2.2.1 X.2.2.2 D O M ou od (j + 1)))) X.1 : (Option Value ⊕ String) × px_H)) x) (u0 : Option Value) (hu0 : px_cz u0 = true) (u1 : Option Value) (hu1 : px_cz u1 = true) (u2 : Option Value) (hu2 : px_cz u2 = true) (u3 : Option Value) (hu3 : px_cz u3 = true) : Ev S xs 300 39 [u0, u1, u2, u3] [] (zH I C Y Γ D O M ou od j) y := by
  have hk : pt_mt[300]? = some pt_r300 := rfl
  unfold fX_addLabel_j39 at hx
  cases hx
  obtain rfl := hM
  exact ev_tw hk rfl (by rfl) rfl zH_j
set_option maxRecDepth 2000 in
theorem rX_addLabel {S : Nat} {xs : Nat → Int32} {I : zI} {C : zC} {Y : Nat → Int32} {Γ : Nat → zG} {D : zD} {O : Nat → Int32} {M : zM} {ou : Nat → Int64} {od : Nat → UInt64} {j : Nat} {a1 : Int32} {a2 : Int32} {X : (Int32 ⊕ String) × zI × (Nat → Int32) × (Nat → zG)}   (hx : fX_addLabel I Y Γ a1 a2 = some X) : Ev S xs 300 0 [some (.ref 0), some (.int a1), some (.int a2), none] [] (zH I C Y Γ D O M ou od j) (Sum.elim (fun v => ((.inl (some (.int v))), (zH X.2.1 C X.2.2.1 X.2.2.2 D O M ou od j))) (fun E => (.inr E, (zH X.2.1 C X.2.2.1 X.2.2.2 D O M ou od (j + 1)))) X.1 : (Option Value ⊕ String) × px_H) := by
  generalize hM : (Sum.elim (fun v => ((.inl (some (.int v))), (zH X.2.1 C X.2.2.1 X.2.2.2 D O M ou od j))) (fun E => (.inr E, (zH X.2.1 C X.2.2.1 X.2.2.2 D O M ou od (j + 1)))) X.1 : (Option Value ⊕ String) × px_H) = y
  replace hM := hM.symm
  have hk : pt_mt[300]? = some pt_r300 := rfl
  unfold fX_addLabel at hx
  refine ev_ls (L' := [some (.ref 0), some (.int a1), some (.int a2), none]) (st' := [.int a1]) (pc' := 1) hk (.iload_n 1) 1 rfl rfl rfl rfl ?_
  refine ev_ls (L' := [some (.ref 0), some (.int a1), some (.int a2), none]) (st' := [.int a2, .int a1]) (pc' := 2) hk (.iload_n 2) 1 rfl rfl rfl rfl ?_
  rcases bnx_some hx with ⟨⟨⟩, hc2, hx⟩ | ⟨E3, hc2, hx⟩
  · skip
    refine ev_cs 343 2 [] 5 hk rfl rfl (by decide) rfl rfl rfl (rX_needPlace hc2) rfl rfl rfl rfl ?_
    refine ev_ls (L' := [some (.ref 0), some (.int a1), some (.int a2), none]) (st' := [.ref 0]) (pc' := 6) hk (.aload_n 0) 1 rfl rfl rfl rfl ?_
    refine ev_gf (.ref 1) 9 hk rfl rfl lk_dh rfl rfl ?_
    obtain ⟨v5, hc6, hx⟩ := bnd_some hx
    refine ev_cv 278 0 [.long v5] 12 hk rfl rfl rfl rfl lk_input rfl rfl rfl (rI_wholeWord hc6) rfl rfl rfl rfl ?_
    obtain ⟨v7, hc8, hx⟩ := bnd_some hx
    refine ev_cs 299 1 [.int v7] 15 hk rfl rfl (by decide) rfl rfl rfl (rW_letterCount hc8) rfl rfl rfl rfl ?_
    refine ev_ls (L' := [some (.ref 0), some (.int a1), some (.int a2), some (.int v7)]) (st' := []) (pc' := 16) hk (.istore_n 3) 1 rfl rfl rfl rfl ?_
    refine ev_ls (L' := [some (.ref 0), some (.int a1), some (.int a2), some (.int v7)]) (st' := [.ref 0]) (pc' := 17) hk (.aload_n 0) 1 rfl rfl rfl rfl ?_
    refine ev_gf (.ref 10) 20 hk rfl rfl lk_dh rfl rfl ?_
    refine ev_cv 222 0 [.int (b2i (fG_hasRoomForLabel (Γ 10)))] 23 hk rfl rfl rfl rfl (lk_globe isG_10 rfl) rfl rfl rfl (ev_gs2 (rG_hasRoomForLabel isG_10 rfl)) rfl rfl rfl rfl ?_
    refine ev_d1 39 26 hk rfl rfl rfl rfl (px_beq hx (fun hc hx => ?_) (fun hc hx => ?_))
    · exact rX_addLabel_j39 hx hM (some (.ref 0)) rfl (some (.int a1)) rfl (some (.int a2)) rfl (some (.int v7)) rfl
    · refine ev_ls (L' := [some (.ref 0), some (.int a1), some (.int a2), some (.int v7)]) (st' := [.ref 0]) (pc' := 27) hk (.aload_n 0) 1 rfl rfl rfl rfl ?_
      refine ev_gf (.ref 10) 30 hk rfl rfl lk_dh rfl rfl ?_
      refine ev_ls (L' := [some (.ref 0), some (.int a1), some (.int a2), some (.int v7)]) (st' := [.int v7, .ref 10]) (pc' := 31) hk (.iload_n 3) 1 rfl rfl rfl rfl ?_
      refine ev_ls (L' := [some (.ref 0), some (.int a1), some (.int a2), some (.int v7)]) (st' := [.int a1, .int v7, .ref 10]) (pc' := 32) hk (.iload_n 1) 1 rfl rfl rfl rfl ?_
      refine ev_ls (L' := [some (.ref 0), some (.int a1), some (.int a2), some (.int v7)]) (st' := [.int a2, .int a1, .int v7, .ref 10]) (pc' := 33) hk (.iload_n 2) 1 rfl rfl rfl rfl ?_
      obtain ⟨v9, hc10, hx⟩ := bnd_some hx
      refine ev_cv 231 3 [.int v9] 36 hk rfl rfl rfl rfl (lk_globe isG_10 rfl) rfl rfl rfl (ev_gs2 (rG_labelHindrance isG_10 hc10)) rfl rfl rfl rfl ?_
      refine ev_d1 50 39 hk rfl rfl rfl rfl (px_ceq hx (fun hc hx => ?_) (fun hc hx => ?_))
      · refine ev_ls (L' := [some (.ref 0), some (.int a1), some (.int a2), some (.int v7)]) (st' := [.ref 0]) (pc' := 51) hk (.aload_n 0) 1 rfl rfl rfl rfl ?_
        refine ev_gf (.ref 88) 54 hk rfl rfl lk_dh rfl rfl ?_
        refine ev_ls (L' := [some (.ref 0), some (.int a1), some (.int a2), some (.int v7)]) (st' := [.ref 0, .ref 88]) (pc' := 55) hk (.aload_n 0) 1 rfl rfl rfl rfl ?_
        refine ev_gf (.ref 10) 58 hk rfl rfl lk_dh rfl rfl ?_
        obtain ⟨Y11, Γ12, hc13, hx⟩ := bnd2_some hx
        refine ev_cv 261 1 [] 61 hk rfl rfl rfl rfl lk_hist rfl rfl rfl (rY_remember isG_10 (by decide) hc13) rfl rfl rfl rfl ?_
        refine ev_ls (L' := [some (.ref 0), some (.int a1), some (.int a2), some (.int v7)]) (st' := [.ref 0]) (pc' := 62) hk (.aload_n 0) 1 rfl rfl rfl rfl ?_
        refine ev_gf (.ref 1) 65 hk rfl rfl lk_dh rfl rfl ?_
        refine ev_op (st' := [.int 0, .ref 1]) (pc' := 66) hk (.iconst 0) 1 rfl rfl rfl ?_
        obtain ⟨I14, hI14, hx⟩ := bnd_some hx
        have hI14 := Option.some.inj hI14
        refine ev_pf 69 hk rfl rfl lk_input rfl rfl rfl (sf_3_1 hI14) rfl ?_
        refine ev_ls (L' := [some (.ref 0), some (.int a1), some (.int a2), some (.int v7)]) (st' := [.ref 0]) (pc' := 70) hk (.aload_n 0) 1 rfl rfl rfl rfl ?_
        refine ev_gf (.ref 10) 73 hk rfl rfl lk_dh rfl rfl ?_
        refine ev_ls (L' := [some (.ref 0), some (.int a1), some (.int a2), some (.int v7)]) (st' := [.int v7, .ref 10]) (pc' := 74) hk (.iload_n 3) 1 rfl rfl rfl rfl ?_
        refine ev_ls (L' := [some (.ref 0), some (.int a1), some (.int a2), some (.int v7)]) (st' := [.int a1, .int v7, .ref 10]) (pc' := 75) hk (.iload_n 1) 1 rfl rfl rfl rfl ?_
        refine ev_ls (L' := [some (.ref 0), some (.int a1), some (.int a2), some (.int v7)]) (st' := [.int a2, .int a1, .int v7, .ref 10]) (pc' := 76) hk (.iload_n 2) 1 rfl rfl rfl rfl ?_
        obtain ⟨v16, G15, hc17, hx⟩ := bnd2_some hx
        refine ev_cv 246 3 [.int v16] 79 hk rfl rfl rfl rfl (lk_globe isG_10 rfl) rfl rfl rfl (ev_gs (rG_sewLabelOn isG_10 hc17)) rfl rfl rfl rfl ?_
        cases hx
        obtain rfl := hM
        exact ev_retI hk rfl rfl
      · exact rX_addLabel_j39 hx hM (some (.ref 0)) rfl (some (.int a1)) rfl (some (.int a2)) rfl (some (.int v7)) rfl
  · skip
    cases hx
    obtain rfl := hM
    exact ev_csX 343 2 hk rfl rfl (by decide) rfl rfl rfl rfl (rX_needPlace hc2) rfl rfl
set_option maxRecDepth 2000 in
theorem rw_addLabel {S : Nat} {xs : Nat → Int32} {I : zI} {C : zC} {Y : Nat → Int32} {Γ : Nat → zG} {D : zD} {O : Nat → Int32} {M : zM} {ou : Nat → Int64} {od : Nat → UInt64} {j : Nat} {a1 : Int32} {a2 : Int32} {X : Int32 × zI × (Nat → Int32) × (Nat → zG) × (Nat → Int64) × Nat}   (hx : fw_addLabel I Y Γ ou j a1 a2 = some X) : Ev S xs 368 0 [some (.ref 0), some (.int a1), some (.int a2), some (.ref 261), none] [] (zH I C Y Γ D O M ou od j) (((.inl (some (.int X.1))), (zH X.2.1 C X.2.2.1 X.2.2.2.1 D O M X.2.2.2.2.1 od X.2.2.2.2.2)) : (Option Value ⊕ String) × px_H) := by
  generalize hM : (((.inl (some (.int X.1))), (zH X.2.1 C X.2.2.1 X.2.2.2.1 D O M X.2.2.2.2.1 od X.2.2.2.2.2)) : (Option Value ⊕ String) × px_H) = y
  replace hM := hM.symm
  have hk : pt_mt[368]? = some pt_r368 := rfl
  unfold fw_addLabel at hx
  refine ev_ls (L' := [some (.ref 0), some (.int a1), some (.int a2), some (.ref 261), none]) (st' := [.ref 261]) (pc' := 1) hk (.aload_n 3) 1 rfl rfl rfl rfl ?_
  refine ev_op (st' := [.int 0, .ref 261]) (pc' := 2) hk (.iconst 0) 1 rfl rfl rfl ?_
  refine ev_ls (L' := [some (.ref 0), some (.int a1), some (.int a2), some (.ref 261), none]) (st' := [.ref 0, .int 0, .ref 261]) (pc' := 3) hk (.aload_n 0) 1 rfl rfl rfl rfl ?_
  refine ev_ls (L' := [some (.ref 0), some (.int a1), some (.int a2), some (.ref 261), none]) (st' := [.int a1, .ref 0, .int 0, .ref 261]) (pc' := 4) hk (.iload_n 1) 1 rfl rfl rfl rfl ?_
  refine ev_ls (L' := [some (.ref 0), some (.int a1), some (.int a2), some (.ref 261), none]) (st' := [.int a2, .int a1, .ref 0, .int 0, .ref 261]) (pc' := 5) hk (.iload_n 2) 1 rfl rfl rfl rfl ?_
  obtain ⟨r9, I2, Y3, Γ4, hc5, hx⟩ := bnd4_some hx
  rcases r9 with v7 | E6
  · simp only [Sum.elim_inl] at hx
    refine ev_cv 300 2 [.int v7, .int 0, .ref 261] 8 hk rfl rfl rfl rfl lk_dh rfl rfl rfl (rX_addLabel hc5) rfl rfl rfl rfl ?_
    refine ev_op (st' := [.long (Int32.toInt64 v7), .int 0, .ref 261]) (pc' := 9) hk (.i2l) 1 rfl rfl rfl ?_
    obtain ⟨ou8, hou8, hx⟩ := bnd_some hx
    have hou8 := Option.some.inj hou8
    refine ev_las (A := (vp_updL ou 0 (Int32.toInt64 v7))) rfl 10 hk rfl lk_ou (sa_ou hou8) rfl ?_
    refine ev_jp (pc' := 21) (st' := []) hk (.goto 11) 3 rfl rfl rfl rfl rfl ?_
    refine ev_op (st' := [.int 0]) (pc' := 22) hk (.iconst 0) 1 rfl rfl rfl ?_
    cases hx
    obtain rfl := hM
    exact ev_retI hk rfl rfl
  · simp only [Sum.elim_inr] at hx
    rcases ite_or hx with ⟨hE, hx⟩ | ⟨hE, hx⟩
    · subst hE
      refine ev_cvC 300 2 15 hk rfl rfl rfl rfl lk_dh rfl rfl rfl (t := 13) (by decide +kernel) (L' := [some (.ref 0), some (.int a1), some (.int a2), some (.ref 261), none]) rfl (rX_addLabel hc5) rfl rfl ?_
      refine ev_op (st' := [.int 1]) (pc' := 16) hk (.iconst 1) 1 rfl rfl rfl ?_
      cases hx
      obtain rfl := hM
      exact ev_retI hk rfl rfl
    rcases ite_or hx with ⟨hE, hx⟩ | ⟨hE, hx⟩
    · subst hE
      refine ev_cvC 300 2 19 hk rfl rfl rfl rfl lk_dh rfl rfl rfl (t := 17) (by decide +kernel) (L' := [some (.ref 0), some (.int a1), some (.int a2), some (.ref 261), none]) rfl (rX_addLabel hc5) rfl rfl ?_
      refine ev_op (st' := [.int 2]) (pc' := 20) hk (.iconst 2) 1 rfl rfl rfl ?_
      cases hx
      obtain rfl := hM
      exact ev_retI hk rfl rfl
    cases hx
set_option maxRecDepth 2000 in
theorem rM_isLetter {S : Nat} {xs : Nat → Int32} {I : zI} {C : zC} {Y : Nat → Int32} {Γ : Nat → zG} {D : zD} {O : Nat → Int32} {M : zM} {ou : Nat → Int64} {od : Nat → UInt64} {j : Nat} {a0 : Int32} {X : Bool}   (hx : fM_isLetter a0 = X) : Ev S xs 89 0 [some (.int a0)] [] (zH I C Y Γ D O M ou od j) (((.inl (some (.int (b2i X)))), (zH I C Y Γ D O M ou od j)) : (Option Value ⊕ String) × px_H) := by
  generalize hM : (((.inl (some (.int (b2i X)))), (zH I C Y Γ D O M ou od j)) : (Option Value ⊕ String) × px_H) = y
  replace hM := hM.symm
  have hk : pt_mt[89]? = some pt_r89 := rfl
  unfold fM_isLetter at hx
  refine ev_ls (L' := [some (.int a0)]) (st' := [.int a0]) (pc' := 1) hk (.iload_n 0) 1 rfl rfl rfl rfl ?_
  refine ev_op (st' := [.int 97, .int a0]) (pc' := 3) hk (.bipush 97) 2 rfl rfl rfl ?_
  refine ev_d2 16 6 hk rfl rfl rfl rfl (px_clt hx (fun hc hx => ?_) (fun hc hx => ?_))
  · refine ev_op (st' := [.int 0]) (pc' := 17) hk (.iconst 0) 1 rfl rfl rfl ?_
    cases hx
    obtain rfl := hM
    exact ev_retZ false rfl hk rfl rfl
  · refine ev_ls (L' := [some (.int a0)]) (st' := [.int a0]) (pc' := 7) hk (.iload_n 0) 1 rfl rfl rfl rfl ?_
    refine ev_op (st' := [.int 122, .int a0]) (pc' := 9) hk (.bipush 122) 2 rfl rfl rfl ?_
    refine ev_d2 16 12 hk rfl rfl rfl rfl (px_cgt hx (fun hc hx => ?_) (fun hc hx => ?_))
    · refine ev_op (st' := [.int 0]) (pc' := 17) hk (.iconst 0) 1 rfl rfl rfl ?_
      cases hx
      obtain rfl := hM
      exact ev_retZ false rfl hk rfl rfl
    · refine ev_op (st' := [.int 1]) (pc' := 13) hk (.iconst 1) 1 rfl rfl rfl ?_
      refine ev_jp (pc' := 17) (st' := [.int 1]) hk (.goto 4) 3 rfl rfl rfl rfl rfl ?_
      cases hx
      obtain rfl := hM
      exact ev_retZ true rfl hk rfl rfl
def qM_bufferName_21 (S : Nat) (xs : Nat → Int32) (I : zI) (C : zC) (Y : Nat → Int32) (Γ : Nat → zG) (D : zD) (O : Nat → Int32) (M : zM) (ou : Nat → Int64) (od : Nat → UInt64) (j : Nat) (y : (Option Value ⊕ String) × px_H) (s : Int64 × Int32) : Prop := Ev S xs 31 21 [some (.ref 247), some (.long s.1), none, some (.int s.2)] [] (zH I C Y Γ D O M ou od j) y
set_option maxRecDepth 4000 in
theorem rM_bufferName_b21 {S : Nat} {xs : Nat → Int32} {I : zI} {C : zC} {Y : Nat → Int32} {Γ : Nat → zG} {D : zD} {O : Nat → Int32} {M : zM} {ou : Nat → Int64} {od : Nat → UInt64} {j : Nat}  {y : (Option Value ⊕ String) × px_H} {s : Int64 × Int32} {x : (Int64 × Int32) ⊕ (Int64)}  (hx : fM_bufferName_b21 M s.1 s.2 = some x) (hM : (Sum.elim (qM_bufferName_21 S xs I C Y Γ D O M ou od j y) (fun X : Int64 => y = (((.inl (some (.long X))), (zH I C Y Γ D O M ou od j)) : (Option Value ⊕ String) × px_H))) x) : qM_bufferName_21 S xs I C Y Γ D O M ou od j y s := by
  obtain ⟨a1, a3⟩ := s
  have hk : pt_mt[31]? = some pt_r31 := rfl
  unfold fM_bufferName_b21 at hx
  try dsimp only at hx
  refine ev_ls (L' := [some (.ref 247), some (.long a1), none, some (.int a3)]) (st' := [.int a3]) (pc' := 22) hk (.iload_n 3) 1 rfl rfl rfl rfl ?_
  refine ev_ls (L' := [some (.ref 247), some (.long a1), none, some (.int a3)]) (st' := [.ref 247, .int a3]) (pc' := 23) hk (.aload_n 0) 1 rfl rfl rfl rfl ?_
  refine ev_gf (.int (mF M 2)) 26 hk rfl rfl lk_model rfl rfl ?_
  refine ev_d2 66 29 hk rfl rfl rfl rfl (px_cge hx (fun hc hx => ?_) (fun hc hx => ?_))
  · refine ev_ls (L' := [some (.ref 247), some (.long a1), none, some (.int a3)]) (st' := [.long a1]) (pc' := 67) hk (.lload_n 1) 1 rfl rfl rfl rfl ?_
    cases hx
    obtain rfl := hM
    exact ev_retL hk rfl rfl
  · refine ev_ls (L' := [some (.ref 247), some (.long a1), none, some (.int a3)]) (st' := [.ref 247]) (pc' := 30) hk (.aload_n 0) 1 rfl rfl rfl rfl ?_
    refine ev_gf (.ref 248) 33 hk rfl rfl lk_model rfl rfl ?_
    refine ev_ls (L' := [some (.ref 247), some (.long a1), none, some (.int a3)]) (st' := [.int a3, .ref 248]) (pc' := 34) hk (.iload_n 3) 1 rfl rfl rfl rfl ?_
    obtain ⟨v3, hv3, hx⟩ := bnd_some hx
    refine ev_ial hv3 35 hk rfl lk_m248 rfl ?_
    refine ev_cs 89 1 [.int (b2i (fM_isLetter v3))] 38 hk rfl rfl (by decide) rfl rfl rfl (rM_isLetter rfl) rfl rfl rfl rfl ?_
    refine ev_d1 43 41 hk rfl rfl rfl rfl (px_bne hx (fun hc hx => ?_) (fun hc hx => ?_))
    · refine ev_ls (L' := [some (.ref 247), some (.long a1), none, some (.int a3)]) (st' := [.long a1]) (pc' := 44) hk (.lload_n 1) 1 rfl rfl rfl rfl ?_
      refine ev_op (st' := [.int 5, .long a1]) (pc' := 45) hk (.iconst 5) 1 rfl rfl rfl ?_
      refine ev_op (st' := [.long (a1 <<< (Int32.toInt64 5 &&& 63))]) (pc' := 46) hk (.lshl) 1 rfl rfl rfl ?_
      refine ev_ls (L' := [some (.ref 247), some (.long a1), none, some (.int a3)]) (st' := [.ref 247, .long (a1 <<< (Int32.toInt64 5 &&& 63))]) (pc' := 47) hk (.aload_n 0) 1 rfl rfl rfl rfl ?_
      refine ev_gf (.ref 248) 50 hk rfl rfl lk_model rfl rfl ?_
      refine ev_ls (L' := [some (.ref 247), some (.long a1), none, some (.int a3)]) (st' := [.int a3, .ref 248, .long (a1 <<< (Int32.toInt64 5 &&& 63))]) (pc' := 51) hk (.iload_n 3) 1 rfl rfl rfl rfl ?_
      obtain ⟨v4, hv4, hx⟩ := bnd_some hx
      refine ev_ial hv4 52 hk rfl lk_m248 rfl ?_
      refine ev_op (st' := [.int 97, .int v4, .long (a1 <<< (Int32.toInt64 5 &&& 63))]) (pc' := 54) hk (.bipush 97) 2 rfl rfl rfl ?_
      refine ev_op (st' := [.int (v4 - 97), .long (a1 <<< (Int32.toInt64 5 &&& 63))]) (pc' := 55) hk (.isub) 1 rfl rfl rfl ?_
      refine ev_op (st' := [.int 1, .int (v4 - 97), .long (a1 <<< (Int32.toInt64 5 &&& 63))]) (pc' := 56) hk (.iconst 1) 1 rfl rfl rfl ?_
      refine ev_op (st' := [.int ((v4 - 97) + 1), .long (a1 <<< (Int32.toInt64 5 &&& 63))]) (pc' := 57) hk (.iadd) 1 rfl rfl rfl ?_
      refine ev_op (st' := [.long (Int32.toInt64 ((v4 - 97) + 1)), .long (a1 <<< (Int32.toInt64 5 &&& 63))]) (pc' := 58) hk (.i2l) 1 rfl rfl rfl ?_
      refine ev_op (st' := [.long ((a1 <<< (Int32.toInt64 5 &&& 63)) ||| (Int32.toInt64 ((v4 - 97) + 1)))]) (pc' := 59) hk (.lor) 1 rfl rfl rfl ?_
      refine ev_ls (L' := [some (.ref 247), some (.long ((a1 <<< (Int32.toInt64 5 &&& 63)) ||| (Int32.toInt64 ((v4 - 97) + 1)))), none, some (.int a3)]) (st' := []) (pc' := 60) hk (.lstore_n 1) 1 rfl rfl rfl rfl ?_
      refine ev_ls (L' := [some (.ref 247), some (.long ((a1 <<< (Int32.toInt64 5 &&& 63)) ||| (Int32.toInt64 ((v4 - 97) + 1)))), none, some (.int (a3 + 1))]) (st' := []) (pc' := 63) hk (.iinc 3 1) 3 rfl rfl rfl rfl ?_
      refine ev_jp (pc' := 21) (st' := []) hk (.goto (-42)) 3 rfl rfl rfl rfl rfl ?_
      cases hx
      exact hM
    · refine ev_op (st' := [.long 0]) (pc' := 42) hk (.lconst 0) 1 rfl rfl rfl ?_
      cases hx
      obtain rfl := hM
      exact ev_retL hk rfl rfl
set_option maxRecDepth 2000 in
theorem rM_bufferName {S : Nat} {xs : Nat → Int32} {I : zI} {C : zC} {Y : Nat → Int32} {Γ : Nat → zG} {D : zD} {O : Nat → Int32} {M : zM} {ou : Nat → Int64} {od : Nat → UInt64} {j : Nat}  {X : Int64}   (hx : fM_bufferName M = some X) : Ev S xs 31 0 [some (.ref 247), none, none, none] [] (zH I C Y Γ D O M ou od j) (((.inl (some (.long X))), (zH I C Y Γ D O M ou od j)) : (Option Value ⊕ String) × px_H) := by
  generalize hM : (((.inl (some (.long X))), (zH I C Y Γ D O M ou od j)) : (Option Value ⊕ String) × px_H) = y
  replace hM := hM.symm
  have hk : pt_mt[31]? = some pt_r31 := rfl
  unfold fM_bufferName at hx
  refine ev_ls (L' := [some (.ref 247), none, none, none]) (st' := [.ref 247]) (pc' := 1) hk (.aload_n 0) 1 rfl rfl rfl rfl ?_
  refine ev_gf (.int (mF M 2)) 4 hk rfl rfl lk_model rfl rfl ?_
  refine ev_op (st' := [.long (Int32.toInt64 (mF M 2))]) (pc' := 5) hk (.i2l) 1 rfl rfl rfl ?_
  refine ev_op (st' := [.long 1, .long (Int32.toInt64 (mF M 2))]) (pc' := 6) hk (.lconst 1) 1 rfl rfl rfl ?_
  refine ev_ldJ 8 9 hk rfl rfl rfl ?_
  refine ev_cs 86 3 [.int (b2i (fM_isIn (Int32.toInt64 (mF M 2)) 1 8))] 12 hk rfl rfl (by decide) rfl rfl rfl (rM_isIn rfl) rfl rfl rfl rfl ?_
  refine ev_d1 17 15 hk rfl rfl rfl rfl (px_bne hx (fun hc hx => ?_) (fun hc hx => ?_))
  · refine ev_op (st' := [.long 0]) (pc' := 18) hk (.lconst 0) 1 rfl rfl rfl ?_
    refine ev_ls (L' := [some (.ref 247), some (.long 0), none, none]) (st' := []) (pc' := 19) hk (.lstore_n 1) 1 rfl rfl rfl rfl ?_
    refine ev_op (st' := [.int 0]) (pc' := 20) hk (.iconst 0) 1 rfl rfl rfl ?_
    refine ev_ls (L' := [some (.ref 247), some (.long 0), none, some (.int 0)]) (st' := []) (pc' := 21) hk (.istore_n 3) 1 rfl rfl rfl rfl ?_
    exact ev_iter (qM_bufferName_21 S xs I C Y Γ D O M ou od j _) (fun X : Int64 => y = (((.inl (some (.long X))), (zH I C Y Γ D O M ou od j)) : (Option Value ⊕ String) × px_H)) (fun s x hb hM => rM_bufferName_b21 hb hM) fu _ _ hx hM 
  · refine ev_op (st' := [.long 0]) (pc' := 16) hk (.lconst 0) 1 rfl rfl rfl ?_
    cases hx
    obtain rfl := hM
    exact ev_retL hk rfl rfl
def qM_lengthOf_4 (S : Nat) (xs : Nat → Int32) (I : zI) (C : zC) (Y : Nat → Int32) (Γ : Nat → zG) (D : zD) (O : Nat → Int32) (M : zM) (ou : Nat → Int64) (od : Nat → UInt64) (j : Nat) (y : (Option Value ⊕ String) × px_H) (s : Int32 × Int64) : Prop := ∀ (u0 : Option Value), Ev S xs 119 4 [u0, none, some (.int s.1), some (.long s.2), none] [] (zH I C Y Γ D O M ou od j) y
set_option maxRecDepth 4000 in
theorem rM_lengthOf_b4 {S : Nat} {xs : Nat → Int32} {I : zI} {C : zC} {Y : Nat → Int32} {Γ : Nat → zG} {D : zD} {O : Nat → Int32} {M : zM} {ou : Nat → Int64} {od : Nat → UInt64} {j : Nat}  {y : (Option Value ⊕ String) × px_H} {s : Int32 × Int64} {x : (Int32 × Int64) ⊕ (Int32)}  (hx : fM_lengthOf_b4 s.1 s.2 = some x) (hM : (Sum.elim (qM_lengthOf_4 S xs I C Y Γ D O M ou od j y) (fun X : Int32 => y = (((.inl (some (.int X))), (zH I C Y Γ D O M ou od j)) : (Option Value ⊕ String) × px_H))) x) : qM_lengthOf_4 S xs I C Y Γ D O M ou od j y s := by
  obtain ⟨a2, a3⟩ := s
  intro u0
  have hk : pt_mt[119]? = some pt_r119 := rfl
  unfold fM_lengthOf_b4 at hx
  try dsimp only at hx
  refine ev_ls (L' := [u0, none, some (.int a2), some (.long a3), none]) (st' := [.long a3]) (pc' := 5) hk (.lload_n 3) 1 rfl rfl rfl rfl ?_
  refine ev_op (st' := [.long 0, .long a3]) (pc' := 6) hk (.lconst 0) 1 rfl rfl rfl ?_
  refine ev_op (st' := [.int (lg_cmp a3 0)]) (pc' := 7) hk (.lcmp) 1 rfl rfl rfl ?_
  refine ev_d1 20 10 hk rfl rfl rfl rfl (px_lle hx (fun hc hx => ?_) (fun hc hx => ?_))
  · refine ev_ls (L' := [u0, none, some (.int a2), some (.long a3), none]) (st' := [.int a2]) (pc' := 21) hk (.iload_n 2) 1 rfl rfl rfl rfl ?_
    cases hx
    obtain rfl := hM
    exact ev_retI hk rfl rfl
  · refine ev_ls (L' := [u0, none, some (.int (a2 + 1)), some (.long a3), none]) (st' := []) (pc' := 13) hk (.iinc 2 1) 3 rfl rfl rfl rfl ?_
    refine ev_ls (L' := [u0, none, some (.int (a2 + 1)), some (.long a3), none]) (st' := [.long a3]) (pc' := 14) hk (.lload_n 3) 1 rfl rfl rfl rfl ?_
    refine ev_op (st' := [.int 5, .long a3]) (pc' := 15) hk (.iconst 5) 1 rfl rfl rfl ?_
    refine ev_op (st' := [.long (a3 >>> (Int32.toInt64 5 &&& 63))]) (pc' := 16) hk (.lshr) 1 rfl rfl rfl ?_
    refine ev_ls (L' := [u0, none, some (.int (a2 + 1)), some (.long (a3 >>> (Int32.toInt64 5 &&& 63))), none]) (st' := []) (pc' := 17) hk (.lstore_n 3) 1 rfl rfl rfl rfl ?_
    refine ev_jp (pc' := 4) (st' := []) hk (.goto (-13)) 3 rfl rfl rfl rfl rfl ?_
    cases hx
    exact hM u0
set_option maxRecDepth 2000 in
theorem rM_lengthOf {S : Nat} {xs : Nat → Int32} {I : zI} {C : zC} {Y : Nat → Int32} {Γ : Nat → zG} {D : zD} {O : Nat → Int32} {M : zM} {ou : Nat → Int64} {od : Nat → UInt64} {j : Nat} {a0 : Int64} {X : Int32}   (hx : fM_lengthOf a0 = some X) : Ev S xs 119 0 [some (.long a0), none, none, none, none] [] (zH I C Y Γ D O M ou od j) (((.inl (some (.int X))), (zH I C Y Γ D O M ou od j)) : (Option Value ⊕ String) × px_H) := by
  generalize hM : (((.inl (some (.int X))), (zH I C Y Γ D O M ou od j)) : (Option Value ⊕ String) × px_H) = y
  replace hM := hM.symm
  have hk : pt_mt[119]? = some pt_r119 := rfl
  unfold fM_lengthOf at hx
  refine ev_op (st' := [.int 0]) (pc' := 1) hk (.iconst 0) 1 rfl rfl rfl ?_
  refine ev_ls (L' := [some (.long a0), none, some (.int 0), none, none]) (st' := []) (pc' := 2) hk (.istore_n 2) 1 rfl rfl rfl rfl ?_
  refine ev_ls (L' := [some (.long a0), none, some (.int 0), none, none]) (st' := [.long a0]) (pc' := 3) hk (.lload_n 0) 1 rfl rfl rfl rfl ?_
  refine ev_ls (L' := [some (.long a0), none, some (.int 0), some (.long a0), none]) (st' := []) (pc' := 4) hk (.lstore_n 3) 1 rfl rfl rfl rfl ?_
  exact ev_iter (qM_lengthOf_4 S xs I C Y Γ D O M ou od j _) (fun X : Int32 => y = (((.inl (some (.int X))), (zH I C Y Γ D O M ou od j)) : (Option Value ⊕ String) × px_H)) (fun s x hb hM => rM_lengthOf_b4 hb hM) fu _ _ hx hM (some (.long a0))
set_option maxRecDepth 2000 in
theorem rM_longBy {S : Nat} {xs : Nat → Int32} {I : zI} {C : zC} {Y : Nat → Int32} {Γ : Nat → zG} {D : zD} {O : Nat → Int32} {M : zM} {ou : Nat → Int64} {od : Nat → UInt64} {j : Nat} {a0 : Int32} {a1 : Int32} {X : Int32}   (hx : fM_longBy a0 a1 = X) : Ev S xs 125 0 [some (.int a0), some (.int a1)] [] (zH I C Y Γ D O M ou od j) (((.inl (some (.int X))), (zH I C Y Γ D O M ou od j)) : (Option Value ⊕ String) × px_H) := by
  generalize hM : (((.inl (some (.int X))), (zH I C Y Γ D O M ou od j)) : (Option Value ⊕ String) × px_H) = y
  replace hM := hM.symm
  have hk : pt_mt[125]? = some pt_r125 := rfl
  unfold fM_longBy at hx
  refine ev_ls (L' := [some (.int a0), some (.int a1)]) (st' := [.int a0]) (pc' := 1) hk (.iload_n 0) 1 rfl rfl rfl rfl ?_
  refine ev_op (st' := [.int 3, .int a0]) (pc' := 2) hk (.iconst 3) 1 rfl rfl rfl ?_
  refine ev_ls (L' := [some (.int a0), some (.int a1)]) (st' := [.int a1, .int 3, .int a0]) (pc' := 3) hk (.iload_n 1) 1 rfl rfl rfl rfl ?_
  refine ev_op (st' := [.int 4, .int a1, .int 3, .int a0]) (pc' := 4) hk (.iconst 4) 1 rfl rfl rfl ?_
  refine ev_cs 57 2 [.int (fM_gap a1 4), .int 3, .int a0] 7 hk rfl rfl (by decide) rfl rfl rfl (rM_gap rfl) rfl rfl rfl rfl ?_
  refine ev_op (st' := [.int (3 + (fM_gap a1 4)), .int a0]) (pc' := 8) hk (.iadd) 1 rfl rfl rfl ?_
  refine ev_op (st' := [.int (a0 * (3 + (fM_gap a1 4)))]) (pc' := 9) hk (.imul) 1 rfl rfl rfl ?_
  cases hx
  obtain rfl := hM
  exact ev_retI hk rfl rfl
def qM_isFree_3 (S : Nat) (xs : Nat → Int32) (I : zI) (C : zC) (Y : Nat → Int32) (Γ : Nat → zG) (D : zD) (O : Nat → Int32) (M : zM) (ou : Nat → Int64) (od : Nat → UInt64) (j : Nat) (a1 : Int32) (a2 : Int32) (a3 : Int32) (y : (Option Value ⊕ String) × px_H) (s : Int32) : Prop := Ev S xs 83 3 [some (.ref 247), some (.int a1), some (.int a2), some (.int a3), some (.int s)] [] (zH I C Y Γ D O M ou od j) y
set_option maxRecDepth 4000 in
theorem rM_isFree_b3 {S : Nat} {xs : Nat → Int32} {I : zI} {C : zC} {Y : Nat → Int32} {Γ : Nat → zG} {D : zD} {O : Nat → Int32} {M : zM} {ou : Nat → Int64} {od : Nat → UInt64} {j : Nat} {a1 : Int32} {a2 : Int32} {a3 : Int32} {y : (Option Value ⊕ String) × px_H} {s : Int32} {x : (Int32) ⊕ (Bool)}  (hx : fM_isFree_b3 M a1 a2 a3 s = some x) (hM : (Sum.elim (qM_isFree_3 S xs I C Y Γ D O M ou od j a1 a2 a3 y) (fun X : Bool => y = (((.inl (some (.int (b2i X)))), (zH I C Y Γ D O M ou od j)) : (Option Value ⊕ String) × px_H))) x) : qM_isFree_3 S xs I C Y Γ D O M ou od j a1 a2 a3 y s := by
  revert hx
  generalize s = a4
  intro hx
  have hk : pt_mt[83]? = some pt_r83 := rfl
  unfold fM_isFree_b3 at hx
  try dsimp only at hx
  refine ev_ls (L' := [some (.ref 247), some (.int a1), some (.int a2), some (.int a3), some (.int a4)]) (st' := [.int a4]) (pc' := 5) hk (.iload 4) 2 rfl rfl rfl rfl ?_
  refine ev_ls (L' := [some (.ref 247), some (.int a1), some (.int a2), some (.int a3), some (.int a4)]) (st' := [.ref 247, .int a4]) (pc' := 6) hk (.aload_n 0) 1 rfl rfl rfl rfl ?_
  refine ev_gf (.ref 249) 9 hk rfl rfl lk_model rfl rfl ?_
  refine ev_op (st' := [.int 2, .ref 249, .int a4]) (pc' := 10) hk (.iconst 2) 1 rfl rfl rfl ?_
  refine ev_ial (v := ((mA M 249) 2)) rfl 11 hk rfl lk_m249 rfl ?_
  refine ev_d2 53 14 hk rfl rfl rfl rfl (px_cge hx (fun hc hx => ?_) (fun hc hx => ?_))
  · refine ev_op (st' := [.int 1]) (pc' := 54) hk (.iconst 1) 1 rfl rfl rfl ?_
    cases hx
    obtain rfl := hM
    exact ev_retZ true rfl hk rfl rfl
  · refine ev_ls (L' := [some (.ref 247), some (.int a1), some (.int a2), some (.int a3), some (.int a4)]) (st' := [.ref 247]) (pc' := 15) hk (.aload_n 0) 1 rfl rfl rfl rfl ?_
    refine ev_ls (L' := [some (.ref 247), some (.int a1), some (.int a2), some (.int a3), some (.int a4)]) (st' := [.int a4, .ref 247]) (pc' := 17) hk (.iload 4) 2 rfl rfl rfl rfl ?_
    refine ev_ls (L' := [some (.ref 247), some (.int a1), some (.int a2), some (.int a3), some (.int a4)]) (st' := [.int a1, .int a4, .ref 247]) (pc' := 18) hk (.iload_n 1) 1 rfl rfl rfl rfl ?_
    obtain ⟨v1, hc2, hx⟩ := bnd_some hx
    refine ev_cv 96 2 [.int (b2i v1)] 21 hk rfl rfl rfl rfl lk_model rfl rfl rfl (rM_isThere hc2) rfl rfl rfl rfl ?_
    refine ev_d1 47 24 hk rfl rfl rfl rfl (px_beq hx (fun hc hx => ?_) (fun hc hx => ?_))
    · refine ev_ls (L' := [some (.ref 247), some (.int a1), some (.int a2), some (.int a3), some (.int (a4 + 1))]) (st' := []) (pc' := 50) hk (.iinc 4 1) 3 rfl rfl rfl rfl ?_
      refine ev_jp (pc' := 3) (st' := []) hk (.goto (-47)) 3 rfl rfl rfl rfl rfl ?_
      cases hx
      exact hM
    · refine ev_ls (L' := [some (.ref 247), some (.int a1), some (.int a2), some (.int a3), some (.int a4)]) (st' := [.ref 247]) (pc' := 25) hk (.aload_n 0) 1 rfl rfl rfl rfl ?_
      refine ev_ls (L' := [some (.ref 247), some (.int a1), some (.int a2), some (.int a3), some (.int a4)]) (st' := [.int a4, .ref 247]) (pc' := 27) hk (.iload 4) 2 rfl rfl rfl rfl ?_
      refine ev_op (st' := [.int 1, .int a4, .ref 247]) (pc' := 28) hk (.iconst 1) 1 rfl rfl rfl ?_
      obtain ⟨v3, hc4, hx⟩ := bnd_some hx
      refine ev_cv 103 2 [.int v3] 31 hk rfl rfl rfl rfl lk_model rfl rfl rfl (rM_its hc4) rfl rfl rfl rfl ?_
      refine ev_ls (L' := [some (.ref 247), some (.int a1), some (.int a2), some (.int a3), some (.int a4)]) (st' := [.int a3, .int v3]) (pc' := 32) hk (.iload_n 3) 1 rfl rfl rfl rfl ?_
      refine ev_d2 47 35 hk rfl rfl rfl rfl (px_cgt hx (fun hc hx => ?_) (fun hc hx => ?_))
      · refine ev_ls (L' := [some (.ref 247), some (.int a1), some (.int a2), some (.int a3), some (.int (a4 + 1))]) (st' := []) (pc' := 50) hk (.iinc 4 1) 3 rfl rfl rfl rfl ?_
        refine ev_jp (pc' := 3) (st' := []) hk (.goto (-47)) 3 rfl rfl rfl rfl rfl ?_
        cases hx
        exact hM
      · refine ev_ls (L' := [some (.ref 247), some (.int a1), some (.int a2), some (.int a3), some (.int a4)]) (st' := [.ref 247]) (pc' := 36) hk (.aload_n 0) 1 rfl rfl rfl rfl ?_
        refine ev_ls (L' := [some (.ref 247), some (.int a1), some (.int a2), some (.int a3), some (.int a4)]) (st' := [.int a4, .ref 247]) (pc' := 38) hk (.iload 4) 2 rfl rfl rfl rfl ?_
        obtain ⟨v5, hc6, hx⟩ := bnd_some hx
        refine ev_cv 116 1 [.int v5] 41 hk rfl rfl rfl rfl lk_model rfl rfl rfl (rM_lastOf hc6) rfl rfl rfl rfl ?_
        refine ev_ls (L' := [some (.ref 247), some (.int a1), some (.int a2), some (.int a3), some (.int a4)]) (st' := [.int a2, .int v5]) (pc' := 42) hk (.iload_n 2) 1 rfl rfl rfl rfl ?_
        refine ev_d2 47 45 hk rfl rfl rfl rfl (px_clt hx (fun hc hx => ?_) (fun hc hx => ?_))
        · refine ev_ls (L' := [some (.ref 247), some (.int a1), some (.int a2), some (.int a3), some (.int (a4 + 1))]) (st' := []) (pc' := 50) hk (.iinc 4 1) 3 rfl rfl rfl rfl ?_
          refine ev_jp (pc' := 3) (st' := []) hk (.goto (-47)) 3 rfl rfl rfl rfl rfl ?_
          cases hx
          exact hM
        · refine ev_op (st' := [.int 0]) (pc' := 46) hk (.iconst 0) 1 rfl rfl rfl ?_
          cases hx
          obtain rfl := hM
          exact ev_retZ false rfl hk rfl rfl
set_option maxRecDepth 2000 in
theorem rM_isFree {S : Nat} {xs : Nat → Int32} {I : zI} {C : zC} {Y : Nat → Int32} {Γ : Nat → zG} {D : zD} {O : Nat → Int32} {M : zM} {ou : Nat → Int64} {od : Nat → UInt64} {j : Nat} {a1 : Int32} {a2 : Int32} {a3 : Int32} {X : Bool}   (hx : fM_isFree M a1 a2 a3 = some X) : Ev S xs 83 0 [some (.ref 247), some (.int a1), some (.int a2), some (.int a3), none] [] (zH I C Y Γ D O M ou od j) (((.inl (some (.int (b2i X)))), (zH I C Y Γ D O M ou od j)) : (Option Value ⊕ String) × px_H) := by
  generalize hM : (((.inl (some (.int (b2i X)))), (zH I C Y Γ D O M ou od j)) : (Option Value ⊕ String) × px_H) = y
  replace hM := hM.symm
  have hk : pt_mt[83]? = some pt_r83 := rfl
  unfold fM_isFree at hx
  refine ev_op (st' := [.int 0]) (pc' := 1) hk (.iconst 0) 1 rfl rfl rfl ?_
  refine ev_ls (L' := [some (.ref 247), some (.int a1), some (.int a2), some (.int a3), some (.int 0)]) (st' := []) (pc' := 3) hk (.istore 4) 2 rfl rfl rfl rfl ?_
  exact ev_iter (qM_isFree_3 S xs I C Y Γ D O M ou od j a1 a2 a3 _) (fun X : Bool => y = (((.inl (some (.int (b2i X)))), (zH I C Y Γ D O M ou od j)) : (Option Value ⊕ String) × px_H)) (fun s x hb hM => rM_isFree_b3 hb hM) fu _ _ hx hM 
def qM_wouldCrossTorn_4 (S : Nat) (xs : Nat → Int32) (I : zI) (C : zC) (Y : Nat → Int32) (Γ : Nat → zG) (D : zD) (O : Nat → Int32) (M : zM) (ou : Nat → Int64) (od : Nat → UInt64) (j : Nat) (a2 : Int32) (y : (Option Value ⊕ String) × px_H) (s : Int32) : Prop := ∀ (u1 : Option Value) (hu1 : px_cz u1 = true), Ev S xs 202 4 [some (.ref 247), u1, some (.int a2), some (.int s)] [] (zH I C Y Γ D O M ou od j) y
set_option maxRecDepth 4000 in
theorem rM_wouldCrossTorn_b4 {S : Nat} {xs : Nat → Int32} {I : zI} {C : zC} {Y : Nat → Int32} {Γ : Nat → zG} {D : zD} {O : Nat → Int32} {M : zM} {ou : Nat → Int64} {od : Nat → UInt64} {j : Nat} {a2 : Int32} {y : (Option Value ⊕ String) × px_H} {s : Int32} {x : (Int32) ⊕ (Bool)}  (hx : fM_wouldCrossTorn_b4 M a2 s = some x) (hM : (Sum.elim (qM_wouldCrossTorn_4 S xs I C Y Γ D O M ou od j a2 y) (fun X : Bool => y = (((.inl (some (.int (b2i X)))), (zH I C Y Γ D O M ou od j)) : (Option Value ⊕ String) × px_H))) x) : qM_wouldCrossTorn_4 S xs I C Y Γ D O M ou od j a2 y s := by
  revert hx
  generalize s = a3
  intro hx
  intro u1 hu1
  have hk : pt_mt[202]? = some pt_r202 := rfl
  unfold fM_wouldCrossTorn_b4 at hx
  try dsimp only at hx
  refine ev_ls (L' := [some (.ref 247), u1, some (.int a2), some (.int a3)]) (st' := [.int a3]) (pc' := 5) hk (.iload_n 3) 1 rfl rfl rfl rfl ?_
  refine ev_ls (L' := [some (.ref 247), u1, some (.int a2), some (.int a3)]) (st' := [.int a2, .int a3]) (pc' := 6) hk (.iload_n 2) 1 rfl rfl rfl rfl ?_
  refine ev_d2 25 9 hk rfl rfl rfl rfl (px_cgt hx (fun hc hx => ?_) (fun hc hx => ?_))
  · refine ev_op (st' := [.int 0]) (pc' := 26) hk (.iconst 0) 1 rfl rfl rfl ?_
    cases hx
    obtain rfl := hM
    exact ev_retZ false rfl hk rfl rfl
  · refine ev_ls (L' := [some (.ref 247), u1, some (.int a2), some (.int a3)]) (st' := [.ref 247]) (pc' := 10) hk (.aload_n 0) 1 rfl rfl rfl rfl ?_
    refine ev_ls (L' := [some (.ref 247), u1, some (.int a2), some (.int a3)]) (st' := [.int a3, .ref 247]) (pc' := 11) hk (.iload_n 3) 1 rfl rfl rfl rfl ?_
    obtain ⟨v1, hc2, hx⟩ := bnd_some hx
    refine ev_cv 97 1 [.int (b2i v1)] 14 hk rfl rfl rfl rfl lk_model rfl rfl rfl (rM_isTornAt hc2) rfl rfl rfl rfl ?_
    refine ev_d1 19 17 hk rfl rfl rfl rfl (px_beq hx (fun hc hx => ?_) (fun hc hx => ?_))
    · refine ev_ls (L' := [some (.ref 247), u1, some (.int a2), some (.int (a3 + 1))]) (st' := []) (pc' := 22) hk (.iinc 3 1) 3 rfl rfl rfl rfl ?_
      refine ev_jp (pc' := 4) (st' := []) hk (.goto (-18)) 3 rfl rfl rfl rfl rfl ?_
      cases hx
      exact hM u1 hu1
    · refine ev_op (st' := [.int 1]) (pc' := 18) hk (.iconst 1) 1 rfl rfl rfl ?_
      cases hx
      obtain rfl := hM
      exact ev_retZ true rfl hk rfl rfl
set_option maxRecDepth 2000 in
theorem rM_wouldCrossTorn {S : Nat} {xs : Nat → Int32} {I : zI} {C : zC} {Y : Nat → Int32} {Γ : Nat → zG} {D : zD} {O : Nat → Int32} {M : zM} {ou : Nat → Int64} {od : Nat → UInt64} {j : Nat} {a1 : Int32} {a2 : Int32} {X : Bool}   (hx : fM_wouldCrossTorn M a1 a2 = some X) : Ev S xs 202 0 [some (.ref 247), some (.int a1), some (.int a2), none] [] (zH I C Y Γ D O M ou od j) (((.inl (some (.int (b2i X)))), (zH I C Y Γ D O M ou od j)) : (Option Value ⊕ String) × px_H) := by
  generalize hM : (((.inl (some (.int (b2i X)))), (zH I C Y Γ D O M ou od j)) : (Option Value ⊕ String) × px_H) = y
  replace hM := hM.symm
  have hk : pt_mt[202]? = some pt_r202 := rfl
  unfold fM_wouldCrossTorn at hx
  refine ev_ls (L' := [some (.ref 247), some (.int a1), some (.int a2), none]) (st' := [.int a1]) (pc' := 1) hk (.iload_n 1) 1 rfl rfl rfl rfl ?_
  refine ev_op (st' := [.int 1, .int a1]) (pc' := 2) hk (.iconst 1) 1 rfl rfl rfl ?_
  refine ev_op (st' := [.int (a1 + 1)]) (pc' := 3) hk (.iadd) 1 rfl rfl rfl ?_
  refine ev_ls (L' := [some (.ref 247), some (.int a1), some (.int a2), some (.int (a1 + 1))]) (st' := []) (pc' := 4) hk (.istore_n 3) 1 rfl rfl rfl rfl ?_
  exact ev_iter (qM_wouldCrossTorn_4 S xs I C Y Γ D O M ou od j a2 _) (fun X : Bool => y = (((.inl (some (.int (b2i X)))), (zH I C Y Γ D O M ou od j)) : (Option Value ⊕ String) × px_H)) (fun s x hb hM => rM_wouldCrossTorn_b4 hb hM) fu _ _ hx hM (some (.int a1)) rfl
set_option maxRecDepth 4000 in
theorem rM_labelWhy {S : Nat} {xs : Nat → Int32} {I : zI} {C : zC} {Y : Nat → Int32} {Γ : Nat → zG} {D : zD} {O : Nat → Int32} {M : zM} {ou : Nat → Int64} {od : Nat → UInt64} {j : Nat} {a1 : Int64} {a3 : Int32} {a4 : Int32} {X : Int32}   (hx : fM_labelWhy M a1 a3 a4 = some X) : Ev S xs 115 0 [some (.ref 247), some (.long a1), none, some (.int a3), some (.int a4), none] [] (zH I C Y Γ D O M ou od j) (((.inl (some (.int X))), (zH I C Y Γ D O M ou od j)) : (Option Value ⊕ String) × px_H) := by
  generalize hM : (((.inl (some (.int X))), (zH I C Y Γ D O M ou od j)) : (Option Value ⊕ String) × px_H) = y
  replace hM := hM.symm
  have hk : pt_mt[115]? = some pt_r115 := rfl
  unfold fM_labelWhy at hx
  refine ev_ls (L' := [some (.ref 247), some (.long a1), none, some (.int a3), some (.int a4), none]) (st' := [.long a1]) (pc' := 1) hk (.lload_n 1) 1 rfl rfl rfl rfl ?_
  refine ev_op (st' := [.long 0, .long a1]) (pc' := 2) hk (.lconst 0) 1 rfl rfl rfl ?_
  refine ev_op (st' := [.int (lg_cmp a1 0)]) (pc' := 3) hk (.lcmp) 1 rfl rfl rfl ?_
  refine ev_d1 8 6 hk rfl rfl rfl rfl (px_lne hx (fun hc hx => ?_) (fun hc hx => ?_))
  · refine ev_ls (L' := [some (.ref 247), some (.long a1), none, some (.int a3), some (.int a4), none]) (st' := [.int a4]) (pc' := 10) hk (.iload 4) 2 rfl rfl rfl rfl ?_
    refine ev_ls (L' := [some (.ref 247), some (.long a1), none, some (.int a3), some (.int a4), none]) (st' := [.long a1, .int a4]) (pc' := 11) hk (.lload_n 1) 1 rfl rfl rfl rfl ?_
    obtain ⟨v2, hc3, hx⟩ := bnd_some hx
    refine ev_cs 119 1 [.int v2, .int a4] 14 hk rfl rfl (by decide) rfl rfl rfl (rM_lengthOf hc3) rfl rfl rfl rfl ?_
    refine ev_ls (L' := [some (.ref 247), some (.long a1), none, some (.int a3), some (.int a4), none]) (st' := [.int a3, .int v2, .int a4]) (pc' := 15) hk (.iload_n 3) 1 rfl rfl rfl rfl ?_
    refine ev_cs 125 2 [.int (fM_longBy v2 a3), .int a4] 18 hk rfl rfl (by decide) rfl rfl rfl (rM_longBy rfl) rfl rfl rfl rfl ?_
    refine ev_op (st' := [.int (a4 + (fM_longBy v2 a3))]) (pc' := 19) hk (.iadd) 1 rfl rfl rfl ?_
    refine ev_op (st' := [.int 1, .int (a4 + (fM_longBy v2 a3))]) (pc' := 20) hk (.iconst 1) 1 rfl rfl rfl ?_
    refine ev_op (st' := [.int ((a4 + (fM_longBy v2 a3)) - 1)]) (pc' := 21) hk (.isub) 1 rfl rfl rfl ?_
    refine ev_ls (L' := [some (.ref 247), some (.long a1), none, some (.int a3), some (.int a4), some (.int ((a4 + (fM_longBy v2 a3)) - 1))]) (st' := []) (pc' := 23) hk (.istore 5) 2 rfl rfl rfl rfl ?_
    refine ev_ls (L' := [some (.ref 247), some (.long a1), none, some (.int a3), some (.int a4), some (.int ((a4 + (fM_longBy v2 a3)) - 1))]) (st' := [.int ((a4 + (fM_longBy v2 a3)) - 1)]) (pc' := 25) hk (.iload 5) 2 rfl rfl rfl rfl ?_
    refine ev_op (st' := [.int 360, .int ((a4 + (fM_longBy v2 a3)) - 1)]) (pc' := 28) hk (.sipush 360) 3 rfl rfl rfl ?_
    refine ev_d2 33 31 hk rfl rfl rfl rfl (px_clt hx (fun hc hx => ?_) (fun hc hx => ?_))
    · refine ev_ls (L' := [some (.ref 247), some (.long a1), none, some (.int a3), some (.int a4), some (.int ((a4 + (fM_longBy v2 a3)) - 1))]) (st' := [.ref 247]) (pc' := 34) hk (.aload_n 0) 1 rfl rfl rfl rfl ?_
      refine ev_ls (L' := [some (.ref 247), some (.long a1), none, some (.int a3), some (.int a4), some (.int ((a4 + (fM_longBy v2 a3)) - 1))]) (st' := [.int a3, .ref 247]) (pc' := 35) hk (.iload_n 3) 1 rfl rfl rfl rfl ?_
      refine ev_ls (L' := [some (.ref 247), some (.long a1), none, some (.int a3), some (.int a4), some (.int ((a4 + (fM_longBy v2 a3)) - 1))]) (st' := [.int a4, .int a3, .ref 247]) (pc' := 37) hk (.iload 4) 2 rfl rfl rfl rfl ?_
      refine ev_ls (L' := [some (.ref 247), some (.long a1), none, some (.int a3), some (.int a4), some (.int ((a4 + (fM_longBy v2 a3)) - 1))]) (st' := [.int ((a4 + (fM_longBy v2 a3)) - 1), .int a4, .int a3, .ref 247]) (pc' := 39) hk (.iload 5) 2 rfl rfl rfl rfl ?_
      obtain ⟨v4, hc5, hx⟩ := bnd_some hx
      refine ev_cv 83 3 [.int (b2i v4)] 42 hk rfl rfl rfl rfl lk_model rfl rfl rfl (rM_isFree hc5) rfl rfl rfl rfl ?_
      refine ev_d1 47 45 hk rfl rfl rfl rfl (px_bne hx (fun hc hx => ?_) (fun hc hx => ?_))
      · refine ev_ls (L' := [some (.ref 247), some (.long a1), none, some (.int a3), some (.int a4), some (.int ((a4 + (fM_longBy v2 a3)) - 1))]) (st' := [.ref 247]) (pc' := 48) hk (.aload_n 0) 1 rfl rfl rfl rfl ?_
        refine ev_gf (.ref 249) 51 hk rfl rfl lk_model rfl rfl ?_
        refine ev_op (st' := [.int 5, .ref 249]) (pc' := 52) hk (.iconst 5) 1 rfl rfl rfl ?_
        refine ev_ls (L' := [some (.ref 247), some (.long a1), none, some (.int a3), some (.int a4), some (.int ((a4 + (fM_longBy v2 a3)) - 1))]) (st' := [.int a3, .int 5, .ref 249]) (pc' := 53) hk (.iload_n 3) 1 rfl rfl rfl rfl ?_
        refine ev_op (st' := [.int (5 + a3), .ref 249]) (pc' := 54) hk (.iadd) 1 rfl rfl rfl ?_
        obtain ⟨v6, hv6, hx⟩ := bnd_some hx
        refine ev_ial hv6 55 hk rfl lk_m249 rfl ?_
        refine ev_op (st' := [.long (Int32.toInt64 v6)]) (pc' := 56) hk (.i2l) 1 rfl rfl rfl ?_
        refine ev_ls (L' := [some (.ref 247), some (.long a1), none, some (.int a3), some (.int a4), some (.int ((a4 + (fM_longBy v2 a3)) - 1))]) (st' := [.int a4, .long (Int32.toInt64 v6)]) (pc' := 58) hk (.iload 4) 2 rfl rfl rfl rfl ?_
        refine ev_op (st' := [.int 1, .int a4, .long (Int32.toInt64 v6)]) (pc' := 59) hk (.iconst 1) 1 rfl rfl rfl ?_
        refine ev_op (st' := [.int (a4 + 1), .long (Int32.toInt64 v6)]) (pc' := 60) hk (.iadd) 1 rfl rfl rfl ?_
        refine ev_op (st' := [.long (Int32.toInt64 (a4 + 1)), .long (Int32.toInt64 v6)]) (pc' := 61) hk (.i2l) 1 rfl rfl rfl ?_
        refine ev_ls (L' := [some (.ref 247), some (.long a1), none, some (.int a3), some (.int a4), some (.int ((a4 + (fM_longBy v2 a3)) - 1))]) (st' := [.int ((a4 + (fM_longBy v2 a3)) - 1), .long (Int32.toInt64 (a4 + 1)), .long (Int32.toInt64 v6)]) (pc' := 63) hk (.iload 5) 2 rfl rfl rfl rfl ?_
        refine ev_op (st' := [.long (Int32.toInt64 ((a4 + (fM_longBy v2 a3)) - 1)), .long (Int32.toInt64 (a4 + 1)), .long (Int32.toInt64 v6)]) (pc' := 64) hk (.i2l) 1 rfl rfl rfl ?_
        refine ev_cs 86 3 [.int (b2i (fM_isIn (Int32.toInt64 v6) (Int32.toInt64 (a4 + 1)) (Int32.toInt64 ((a4 + (fM_longBy v2 a3)) - 1))))] 67 hk rfl rfl (by decide) rfl rfl rfl (rM_isIn rfl) rfl rfl rfl rfl ?_
        refine ev_d1 72 70 hk rfl rfl rfl rfl (px_beq hx (fun hc hx => ?_) (fun hc hx => ?_))
        · refine ev_ls (L' := [some (.ref 247), some (.long a1), none, some (.int a3), some (.int a4), some (.int ((a4 + (fM_longBy v2 a3)) - 1))]) (st' := [.ref 247]) (pc' := 73) hk (.aload_n 0) 1 rfl rfl rfl rfl ?_
          refine ev_ls (L' := [some (.ref 247), some (.long a1), none, some (.int a3), some (.int a4), some (.int ((a4 + (fM_longBy v2 a3)) - 1))]) (st' := [.int a4, .ref 247]) (pc' := 75) hk (.iload 4) 2 rfl rfl rfl rfl ?_
          refine ev_ls (L' := [some (.ref 247), some (.long a1), none, some (.int a3), some (.int a4), some (.int ((a4 + (fM_longBy v2 a3)) - 1))]) (st' := [.int ((a4 + (fM_longBy v2 a3)) - 1), .int a4, .ref 247]) (pc' := 77) hk (.iload 5) 2 rfl rfl rfl rfl ?_
          obtain ⟨v7, hc8, hx⟩ := bnd_some hx
          refine ev_cv 202 2 [.int (b2i v7)] 80 hk rfl rfl rfl rfl lk_model rfl rfl rfl (rM_wouldCrossTorn hc8) rfl rfl rfl rfl ?_
          refine ev_d1 87 83 hk rfl rfl rfl rfl (px_beq hx (fun hc hx => ?_) (fun hc hx => ?_))
          · refine ev_op (st' := [.int 0]) (pc' := 88) hk (.iconst 0) 1 rfl rfl rfl ?_
            cases hx
            obtain rfl := hM
            exact ev_retI hk rfl rfl
          · refine ev_op (st' := [.int 5]) (pc' := 84) hk (.iconst 5) 1 rfl rfl rfl ?_
            refine ev_jp (pc' := 88) (st' := [.int 5]) hk (.goto 4) 3 rfl rfl rfl rfl rfl ?_
            cases hx
            obtain rfl := hM
            exact ev_retI hk rfl rfl
        · refine ev_op (st' := [.int 4]) (pc' := 71) hk (.iconst 4) 1 rfl rfl rfl ?_
          cases hx
          obtain rfl := hM
          exact ev_retI hk rfl rfl
      · refine ev_op (st' := [.int 3]) (pc' := 46) hk (.iconst 3) 1 rfl rfl rfl ?_
        cases hx
        obtain rfl := hM
        exact ev_retI hk rfl rfl
    · refine ev_op (st' := [.int 2]) (pc' := 32) hk (.iconst 2) 1 rfl rfl rfl ?_
      cases hx
      obtain rfl := hM
      exact ev_retI hk rfl rfl
  · refine ev_op (st' := [.int 1]) (pc' := 7) hk (.iconst 1) 1 rfl rfl rfl ?_
    cases hx
    obtain rfl := hM
    exact ev_retI hk rfl rfl
set_option maxRecDepth 4000 in
theorem rM_addsLabel {S : Nat} {xs : Nat → Int32} {I : zI} {C : zC} {Y : Nat → Int32} {Γ : Nat → zG} {D : zD} {O : Nat → Int32} {M : zM} {ou : Nat → Int64} {od : Nat → UInt64} {j : Nat} {a1 : Int64} {a3 : Int32} {a4 : Int32} {X : Int32 × zM}   (hx : fM_addsLabel M a1 a3 a4 = some X) : Ev S xs 21 0 [some (.ref 247), some (.long a1), none, some (.int a3), some (.int a4), none] [] (zH I C Y Γ D O M ou od j) (((.inl (some (.int X.1))), (zH I C Y Γ D O X.2 ou od j)) : (Option Value ⊕ String) × px_H) := by
  generalize hM : (((.inl (some (.int X.1))), (zH I C Y Γ D O X.2 ou od j)) : (Option Value ⊕ String) × px_H) = y
  replace hM := hM.symm
  have hk : pt_mt[21]? = some pt_r21 := rfl
  unfold fM_addsLabel at hx
  refine ev_ls (L' := [some (.ref 247), some (.long a1), none, some (.int a3), some (.int a4), none]) (st' := [.ref 247]) (pc' := 1) hk (.aload_n 0) 1 rfl rfl rfl rfl ?_
  refine ev_gf (.ref 249) 4 hk rfl rfl lk_model rfl rfl ?_
  refine ev_op (st' := [.int 2, .ref 249]) (pc' := 5) hk (.iconst 2) 1 rfl rfl rfl ?_
  refine ev_ial (v := ((mA M 249) 2)) rfl 6 hk rfl lk_m249 rfl ?_
  refine ev_cs 118 1 [.int (fM_lbl ((mA M 249) 2))] 9 hk rfl rfl (by decide) rfl rfl rfl (rM_lbl rfl) rfl rfl rfl rfl ?_
  refine ev_ls (L' := [some (.ref 247), some (.long a1), none, some (.int a3), some (.int a4), some (.int (fM_lbl ((mA M 249) 2)))]) (st' := []) (pc' := 11) hk (.istore 5) 2 rfl rfl rfl rfl ?_
  refine ev_ls (L' := [some (.ref 247), some (.long a1), none, some (.int a3), some (.int a4), some (.int (fM_lbl ((mA M 249) 2)))]) (st' := [.ref 247]) (pc' := 12) hk (.aload_n 0) 1 rfl rfl rfl rfl ?_
  refine ev_gf (.ref 249) 15 hk rfl rfl lk_model rfl rfl ?_
  refine ev_ls (L' := [some (.ref 247), some (.long a1), none, some (.int a3), some (.int a4), some (.int (fM_lbl ((mA M 249) 2)))]) (st' := [.int (fM_lbl ((mA M 249) 2)), .ref 249]) (pc' := 17) hk (.iload 5) 2 rfl rfl rfl rfl ?_
  refine ev_op (st' := [.int 0, .int (fM_lbl ((mA M 249) 2)), .ref 249]) (pc' := 18) hk (.iconst 0) 1 rfl rfl rfl ?_
  refine ev_op (st' := [.int ((fM_lbl ((mA M 249) 2)) + 0), .ref 249]) (pc' := 19) hk (.iadd) 1 rfl rfl rfl ?_
  refine ev_ls (L' := [some (.ref 247), some (.long a1), none, some (.int a3), some (.int a4), some (.int (fM_lbl ((mA M 249) 2)))]) (st' := [.int a3, .int ((fM_lbl ((mA M 249) 2)) + 0), .ref 249]) (pc' := 20) hk (.iload_n 3) 1 rfl rfl rfl rfl ?_
  obtain ⟨A10, hA10, hx⟩ := bnd_some hx
  obtain ⟨M11, hM11, hx⟩ := bnd_some hx
  have hM11 := Option.some.inj hM11
  refine ev_ias hA10 21 hk rfl lk_m249 (sa_m249 hM11) rfl ?_
  refine ev_ls (L' := [some (.ref 247), some (.long a1), none, some (.int a3), some (.int a4), some (.int (fM_lbl ((mA M 249) 2)))]) (st' := [.ref 247]) (pc' := 22) hk (.aload_n 0) 1 rfl rfl rfl rfl ?_
  refine ev_gf (.ref 249) 25 hk rfl rfl lk_model rfl rfl ?_
  refine ev_ls (L' := [some (.ref 247), some (.long a1), none, some (.int a3), some (.int a4), some (.int (fM_lbl ((mA M 249) 2)))]) (st' := [.int (fM_lbl ((mA M 249) 2)), .ref 249]) (pc' := 27) hk (.iload 5) 2 rfl rfl rfl rfl ?_
  refine ev_op (st' := [.int 1, .int (fM_lbl ((mA M 249) 2)), .ref 249]) (pc' := 28) hk (.iconst 1) 1 rfl rfl rfl ?_
  refine ev_op (st' := [.int ((fM_lbl ((mA M 249) 2)) + 1), .ref 249]) (pc' := 29) hk (.iadd) 1 rfl rfl rfl ?_
  refine ev_ls (L' := [some (.ref 247), some (.long a1), none, some (.int a3), some (.int a4), some (.int (fM_lbl ((mA M 249) 2)))]) (st' := [.int a4, .int ((fM_lbl ((mA M 249) 2)) + 1), .ref 249]) (pc' := 31) hk (.iload 4) 2 rfl rfl rfl rfl ?_
  obtain ⟨A12, hA12, hx⟩ := bnd_some hx
  obtain ⟨M13, hM13, hx⟩ := bnd_some hx
  have hM13 := Option.some.inj hM13
  refine ev_ias hA12 32 hk rfl lk_m249 (sa_m249 hM13) rfl ?_
  refine ev_ls (L' := [some (.ref 247), some (.long a1), none, some (.int a3), some (.int a4), some (.int (fM_lbl ((mA M 249) 2)))]) (st' := [.ref 247]) (pc' := 33) hk (.aload_n 0) 1 rfl rfl rfl rfl ?_
  refine ev_gf (.ref 249) 36 hk rfl rfl lk_model rfl rfl ?_
  refine ev_ls (L' := [some (.ref 247), some (.long a1), none, some (.int a3), some (.int a4), some (.int (fM_lbl ((mA M 249) 2)))]) (st' := [.int (fM_lbl ((mA M 249) 2)), .ref 249]) (pc' := 38) hk (.iload 5) 2 rfl rfl rfl rfl ?_
  refine ev_op (st' := [.int 2, .int (fM_lbl ((mA M 249) 2)), .ref 249]) (pc' := 39) hk (.iconst 2) 1 rfl rfl rfl ?_
  refine ev_op (st' := [.int ((fM_lbl ((mA M 249) 2)) + 2), .ref 249]) (pc' := 40) hk (.iadd) 1 rfl rfl rfl ?_
  refine ev_ls (L' := [some (.ref 247), some (.long a1), none, some (.int a3), some (.int a4), some (.int (fM_lbl ((mA M 249) 2)))]) (st' := [.long a1, .int ((fM_lbl ((mA M 249) 2)) + 2), .ref 249]) (pc' := 41) hk (.lload_n 1) 1 rfl rfl rfl rfl ?_
  obtain ⟨v14, hc15, hx⟩ := bnd_some hx
  refine ev_cs 119 1 [.int v14, .int ((fM_lbl ((mA M 249) 2)) + 2), .ref 249] 44 hk rfl rfl (by decide) rfl rfl rfl (rM_lengthOf hc15) rfl rfl rfl rfl ?_
  refine ev_ls (L' := [some (.ref 247), some (.long a1), none, some (.int a3), some (.int a4), some (.int (fM_lbl ((mA M 249) 2)))]) (st' := [.int a3, .int v14, .int ((fM_lbl ((mA M 249) 2)) + 2), .ref 249]) (pc' := 45) hk (.iload_n 3) 1 rfl rfl rfl rfl ?_
  refine ev_cs 125 2 [.int (fM_longBy v14 a3), .int ((fM_lbl ((mA M 249) 2)) + 2), .ref 249] 48 hk rfl rfl (by decide) rfl rfl rfl (rM_longBy rfl) rfl rfl rfl rfl ?_
  obtain ⟨A16, hA16, hx⟩ := bnd_some hx
  obtain ⟨M17, hM17, hx⟩ := bnd_some hx
  have hM17 := Option.some.inj hM17
  refine ev_ias hA16 49 hk rfl lk_m249 (sa_m249 hM17) rfl ?_
  refine ev_ls (L' := [some (.ref 247), some (.long a1), none, some (.int a3), some (.int a4), some (.int (fM_lbl ((mA M 249) 2)))]) (st' := [.ref 247]) (pc' := 50) hk (.aload_n 0) 1 rfl rfl rfl rfl ?_
  refine ev_gf (.ref 249) 53 hk rfl rfl lk_model rfl rfl ?_
  refine ev_ls (L' := [some (.ref 247), some (.long a1), none, some (.int a3), some (.int a4), some (.int (fM_lbl ((mA M 249) 2)))]) (st' := [.int (fM_lbl ((mA M 249) 2)), .ref 249]) (pc' := 55) hk (.iload 5) 2 rfl rfl rfl rfl ?_
  refine ev_op (st' := [.int 3, .int (fM_lbl ((mA M 249) 2)), .ref 249]) (pc' := 56) hk (.iconst 3) 1 rfl rfl rfl ?_
  refine ev_op (st' := [.int ((fM_lbl ((mA M 249) 2)) + 3), .ref 249]) (pc' := 57) hk (.iadd) 1 rfl rfl rfl ?_
  refine ev_op (st' := [.int 0, .int ((fM_lbl ((mA M 249) 2)) + 3), .ref 249]) (pc' := 58) hk (.iconst 0) 1 rfl rfl rfl ?_
  obtain ⟨A18, hA18, hx⟩ := bnd_some hx
  obtain ⟨M19, hM19, hx⟩ := bnd_some hx
  have hM19 := Option.some.inj hM19
  refine ev_ias hA18 59 hk rfl lk_m249 (sa_m249 hM19) rfl ?_
  refine ev_ls (L' := [some (.ref 247), some (.long a1), none, some (.int a3), some (.int a4), some (.int (fM_lbl ((mA M 249) 2)))]) (st' := [.ref 247]) (pc' := 60) hk (.aload_n 0) 1 rfl rfl rfl rfl ?_
  refine ev_gf (.ref 249) 63 hk rfl rfl lk_model rfl rfl ?_
  refine ev_op (st' := [.int 2, .ref 249]) (pc' := 64) hk (.iconst 2) 1 rfl rfl rfl ?_
  refine ev_op (st' := [.int 2, .ref 249, .int 2, .ref 249]) (pc' := 65) hk (.dup2) 1 rfl rfl rfl ?_
  refine ev_ial (v := ((mA M19 249) 2)) rfl 66 hk rfl lk_m249 rfl ?_
  refine ev_op (st' := [.int 1, .int ((mA M19 249) 2), .int 2, .ref 249]) (pc' := 67) hk (.iconst 1) 1 rfl rfl rfl ?_
  refine ev_op (st' := [.int (((mA M19 249) 2) + 1), .int 2, .ref 249]) (pc' := 68) hk (.iadd) 1 rfl rfl rfl ?_
  obtain ⟨M20, hM20, hx⟩ := bnd_some hx
  have hM20 := Option.some.inj hM20
  refine ev_ias (A := (upd (mA M19 249) 2 (((mA M19 249) 2) + 1))) rfl 69 hk rfl lk_m249 (sa_m249 hM20) rfl ?_
  refine ev_ls (L' := [some (.ref 247), some (.long a1), none, some (.int a3), some (.int a4), some (.int (fM_lbl ((mA M 249) 2)))]) (st' := [.ref 247]) (pc' := 70) hk (.aload_n 0) 1 rfl rfl rfl rfl ?_
  refine ev_gf (.ref 249) 73 hk rfl rfl lk_model rfl rfl ?_
  refine ev_op (st' := [.int 2, .ref 249]) (pc' := 74) hk (.iconst 2) 1 rfl rfl rfl ?_
  refine ev_ial (v := ((mA M20 249) 2)) rfl 75 hk rfl lk_m249 rfl ?_
  refine ev_op (st' := [.int 1, .int ((mA M20 249) 2)]) (pc' := 76) hk (.iconst 1) 1 rfl rfl rfl ?_
  refine ev_op (st' := [.int (((mA M20 249) 2) - 1)]) (pc' := 77) hk (.isub) 1 rfl rfl rfl ?_
  cases hx
  obtain rfl := hM
  exact ev_retI hk rfl rfl
set_option maxRecDepth 4000 in
theorem rM_addLabel_j46 {S : Nat} {xs : Nat → Int32} {I : zI} {C : zC} {Y : Nat → Int32} {Γ : Nat → zG} {D : zD} {O : Nat → Int32} {M : zM} {ou : Nat → Int64} {od : Nat → UInt64} {j : Nat} {a1 : Int32} {a2 : Int32} {a3 : Int64} {a0t : Bool} {a1t : Bool} {y : (Option Value ⊕ String) × px_H} {x : Int32 × zM}  (hx : fM_addLabel_j46 M a1 a2 a3 a0t a1t = some x) (hM : (fun X : Int32 × zM => y = (((.inl (some (.int X.1))), (zH I C Y Γ D O X.2 ou od j)) : (Option Value ⊕ String) × px_H)) x) (u5 : Option Value) (hu5 : px_cz u5 = true) : Ev S xs 16 46 [some (.ref 247), some (.int a1), some (.int a2), some (.long a3), none, u5] [.int (b2i a0t), .int (b2i a1t), .ref 247] (zH I C Y Γ D O M ou od j) y := by
  have hk : pt_mt[16]? = some pt_r16 := rfl
  unfold fM_addLabel_j46 at hx
  obtain ⟨v4, M3, hc5, hx⟩ := bnd2_some hx
  refine ev_cv 61 2 [.int (b2i v4)] 49 hk rfl rfl rfl rfl lk_model rfl rfl rfl (rM_goesBoth hc5) rfl rfl rfl rfl ?_
  refine ev_d1 54 52 hk rfl rfl rfl rfl (px_bne hx (fun hc hx => ?_) (fun hc hx => ?_))
  · refine ev_ls (L' := [some (.ref 247), some (.int a1), some (.int a2), some (.long a3), none, u5]) (st' := [.ref 247]) (pc' := 55) hk (.aload_n 0) 1 rfl rfl rfl rfl ?_
    obtain ⟨M6, hc7, hx⟩ := bnd_some hx
    refine ev_cv 117 0 [] 58 hk rfl rfl rfl rfl lk_model rfl rfl rfl (rM_laysAside hc7) rfl rfl rfl rfl ?_
    refine ev_ls (L' := [some (.ref 247), some (.int a1), some (.int a2), some (.long a3), none, u5]) (st' := [.ref 247]) (pc' := 59) hk (.aload_n 0) 1 rfl rfl rfl rfl ?_
    refine ev_op (st' := [.int 0, .ref 247]) (pc' := 60) hk (.iconst 0) 1 rfl rfl rfl ?_
    obtain ⟨M8, hM8, hx⟩ := bnd_some hx
    have hM8 := Option.some.inj hM8
    refine ev_pf 63 hk rfl rfl lk_model rfl rfl rfl (sf_8_2 hM8) rfl ?_
    refine ev_ls (L' := [some (.ref 247), some (.int a1), some (.int a2), some (.long a3), none, u5]) (st' := [.ref 247]) (pc' := 64) hk (.aload_n 0) 1 rfl rfl rfl rfl ?_
    refine ev_ls (L' := [some (.ref 247), some (.int a1), some (.int a2), some (.long a3), none, u5]) (st' := [.ref 247, .ref 247]) (pc' := 65) hk (.aload_n 0) 1 rfl rfl rfl rfl ?_
    refine ev_ls (L' := [some (.ref 247), some (.int a1), some (.int a2), some (.long a3), none, u5]) (st' := [.long a3, .ref 247, .ref 247]) (pc' := 66) hk (.lload_n 3) 1 rfl rfl rfl rfl ?_
    refine ev_ls (L' := [some (.ref 247), some (.int a1), some (.int a2), some (.long a3), none, u5]) (st' := [.int a1, .long a3, .ref 247, .ref 247]) (pc' := 67) hk (.iload_n 1) 1 rfl rfl rfl rfl ?_
    refine ev_ls (L' := [some (.ref 247), some (.int a1), some (.int a2), some (.long a3), none, u5]) (st' := [.int a2, .int a1, .long a3, .ref 247, .ref 247]) (pc' := 68) hk (.iload_n 2) 1 rfl rfl rfl rfl ?_
    obtain ⟨v10, M9, hc11, hx⟩ := bnd2_some hx
    refine ev_cv 21 3 [.int v10, .ref 247] 71 hk rfl rfl rfl rfl lk_model rfl rfl rfl (rM_addsLabel hc11) rfl rfl rfl rfl ?_
    obtain ⟨v13, M12, hc14, hx⟩ := bnd2_some hx
    refine ev_cv 105 1 [.int v13] 74 hk rfl rfl rfl rfl lk_model rfl rfl rfl (rM_kept hc14) rfl rfl rfl rfl ?_
    cases hx
    obtain rfl := hM
    exact ev_retI hk rfl rfl
  · refine ev_op (st' := [.int 0]) (pc' := 53) hk (.iconst 0) 1 rfl rfl rfl ?_
    cases hx
    obtain rfl := hM
    exact ev_retI hk rfl rfl
set_option maxRecDepth 4000 in
theorem rM_addLabel_j45 {S : Nat} {xs : Nat → Int32} {I : zI} {C : zC} {Y : Nat → Int32} {Γ : Nat → zG} {D : zD} {O : Nat → Int32} {M : zM} {ou : Nat → Int64} {od : Nat → UInt64} {j : Nat} {a1 : Int32} {a2 : Int32} {a3 : Int64} {a0t : Bool} {y : (Option Value ⊕ String) × px_H} {x : Int32 × zM}  (hx : fM_addLabel_j45 M a1 a2 a3 a0t = some x) (hM : (fun X : Int32 × zM => y = (((.inl (some (.int X.1))), (zH I C Y Γ D O X.2 ou od j)) : (Option Value ⊕ String) × px_H)) x) (u5 : Option Value) (hu5 : px_cz u5 = true) : Ev S xs 16 45 [some (.ref 247), some (.int a1), some (.int a2), some (.long a3), none, u5] [.int (b2i a0t), .ref 247] (zH I C Y Γ D O M ou od j) y := by
  have hk : pt_mt[16]? = some pt_r16 := rfl
  unfold fM_addLabel_j45 at hx
  refine ev_op (st' := [.int 0, .int (b2i a0t), .ref 247]) (pc' := 46) hk (.iconst 0) 1 rfl rfl rfl ?_
  exact rM_addLabel_j46 hx hM u5 hu5
set_option maxRecDepth 2000 in
theorem rM_addLabel {S : Nat} {xs : Nat → Int32} {I : zI} {C : zC} {Y : Nat → Int32} {Γ : Nat → zG} {D : zD} {O : Nat → Int32} {M : zM} {ou : Nat → Int64} {od : Nat → UInt64} {j : Nat} {a1 : Int32} {a2 : Int32} {X : Int32 × zM}   (hx : fM_addLabel M a1 a2 = some X) : Ev S xs 16 0 [some (.ref 247), some (.int a1), some (.int a2), none, none, none] [] (zH I C Y Γ D O M ou od j) (((.inl (some (.int X.1))), (zH I C Y Γ D O X.2 ou od j)) : (Option Value ⊕ String) × px_H) := by
  generalize hM : (((.inl (some (.int X.1))), (zH I C Y Γ D O X.2 ou od j)) : (Option Value ⊕ String) × px_H) = y
  replace hM := hM.symm
  have hk : pt_mt[16]? = some pt_r16 := rfl
  unfold fM_addLabel at hx
  refine ev_ls (L' := [some (.ref 247), some (.int a1), some (.int a2), none, none, none]) (st' := [.ref 247]) (pc' := 1) hk (.aload_n 0) 1 rfl rfl rfl rfl ?_
  obtain ⟨v15, hc16, hx⟩ := bnd_some hx
  refine ev_cv 31 0 [.long v15] 4 hk rfl rfl rfl rfl lk_model rfl rfl rfl (rM_bufferName hc16) rfl rfl rfl rfl ?_
  refine ev_ls (L' := [some (.ref 247), some (.int a1), some (.int a2), some (.long v15), none, none]) (st' := []) (pc' := 5) hk (.lstore_n 3) 1 rfl rfl rfl rfl ?_
  refine ev_ls (L' := [some (.ref 247), some (.int a1), some (.int a2), some (.long v15), none, none]) (st' := [.int a1]) (pc' := 6) hk (.iload_n 1) 1 rfl rfl rfl rfl ?_
  refine ev_ls (L' := [some (.ref 247), some (.int a1), some (.int a2), some (.long v15), none, none]) (st' := [.int a2, .int a1]) (pc' := 7) hk (.iload_n 2) 1 rfl rfl rfl rfl ?_
  refine ev_cs 93 2 [.int (b2i (fM_isSpotAt a1 a2))] 10 hk rfl rfl (by decide) rfl rfl rfl (rM_isSpotAt rfl) rfl rfl rfl rfl ?_
  refine ev_ls (L' := [some (.ref 247), some (.int a1), some (.int a2), some (.long v15), none, some (.int (b2i (fM_isSpotAt a1 a2)))]) (st' := []) (pc' := 12) hk (.istore 5) 2 rfl rfl rfl rfl ?_
  refine ev_ls (L' := [some (.ref 247), some (.int a1), some (.int a2), some (.long v15), none, some (.int (b2i (fM_isSpotAt a1 a2)))]) (st' := [.ref 247]) (pc' := 13) hk (.aload_n 0) 1 rfl rfl rfl rfl ?_
  refine ev_ls (L' := [some (.ref 247), some (.int a1), some (.int a2), some (.long v15), none, some (.int (b2i (fM_isSpotAt a1 a2)))]) (st' := [.int (b2i (fM_isSpotAt a1 a2)), .ref 247]) (pc' := 15) hk (.iload 5) 2 rfl rfl rfl rfl ?_
  refine ev_ls (L' := [some (.ref 247), some (.int a1), some (.int a2), some (.long v15), none, some (.int (b2i (fM_isSpotAt a1 a2)))]) (st' := [.int (b2i (fM_isSpotAt a1 a2)), .int (b2i (fM_isSpotAt a1 a2)), .ref 247]) (pc' := 17) hk (.iload 5) 2 rfl rfl rfl rfl ?_
  refine ev_d1 45 20 hk rfl rfl rfl rfl (px_beq hx (fun hc hx => ?_) (fun hc hx => ?_))
  · exact rM_addLabel_j45 hx hM (some (.int (b2i (fM_isSpotAt a1 a2)))) rfl
  · refine ev_ls (L' := [some (.ref 247), some (.int a1), some (.int a2), some (.long v15), none, some (.int (b2i (fM_isSpotAt a1 a2)))]) (st' := [.ref 247, .int (b2i (fM_isSpotAt a1 a2)), .ref 247]) (pc' := 21) hk (.aload_n 0) 1 rfl rfl rfl rfl ?_
    refine ev_ls (L' := [some (.ref 247), some (.int a1), some (.int a2), some (.long v15), none, some (.int (b2i (fM_isSpotAt a1 a2)))]) (st' := [.long v15, .ref 247, .int (b2i (fM_isSpotAt a1 a2)), .ref 247]) (pc' := 22) hk (.lload_n 3) 1 rfl rfl rfl rfl ?_
    refine ev_ls (L' := [some (.ref 247), some (.int a1), some (.int a2), some (.long v15), none, some (.int (b2i (fM_isSpotAt a1 a2)))]) (st' := [.int a1, .long v15, .ref 247, .int (b2i (fM_isSpotAt a1 a2)), .ref 247]) (pc' := 23) hk (.iload_n 1) 1 rfl rfl rfl rfl ?_
    refine ev_ls (L' := [some (.ref 247), some (.int a1), some (.int a2), some (.long v15), none, some (.int (b2i (fM_isSpotAt a1 a2)))]) (st' := [.int a2, .int a1, .long v15, .ref 247, .int (b2i (fM_isSpotAt a1 a2)), .ref 247]) (pc' := 24) hk (.iload_n 2) 1 rfl rfl rfl rfl ?_
    obtain ⟨v17, hc18, hx⟩ := bnd_some hx
    refine ev_cv 115 3 [.int v17, .int (b2i (fM_isSpotAt a1 a2)), .ref 247] 27 hk rfl rfl rfl rfl lk_model rfl rfl rfl (rM_labelWhy hc18) rfl rfl rfl rfl ?_
    refine ev_d1 45 30 hk rfl rfl rfl rfl (px_cne hx (fun hc hx => ?_) (fun hc hx => ?_))
    · exact rM_addLabel_j45 hx hM (some (.int (b2i (fM_isSpotAt a1 a2)))) rfl
    · refine ev_ls (L' := [some (.ref 247), some (.int a1), some (.int a2), some (.long v15), none, some (.int (b2i (fM_isSpotAt a1 a2)))]) (st' := [.ref 247, .int (b2i (fM_isSpotAt a1 a2)), .ref 247]) (pc' := 31) hk (.aload_n 0) 1 rfl rfl rfl rfl ?_
      refine ev_gf (.ref 249) 34 hk rfl rfl lk_model rfl rfl ?_
      refine ev_op (st' := [.int 2, .ref 249, .int (b2i (fM_isSpotAt a1 a2)), .ref 247]) (pc' := 35) hk (.iconst 2) 1 rfl rfl rfl ?_
      refine ev_ial (v := ((mA M 249) 2)) rfl 36 hk rfl lk_m249 rfl ?_
      refine ev_op (st' := [.int 8, .int ((mA M 249) 2), .int (b2i (fM_isSpotAt a1 a2)), .ref 247]) (pc' := 38) hk (.bipush 8) 2 rfl rfl rfl ?_
      refine ev_d2 45 41 hk rfl rfl rfl rfl (px_cge hx (fun hc hx => ?_) (fun hc hx => ?_))
      · exact rM_addLabel_j45 hx hM (some (.int (b2i (fM_isSpotAt a1 a2)))) rfl
      · refine ev_op (st' := [.int 1, .int (b2i (fM_isSpotAt a1 a2)), .ref 247]) (pc' := 42) hk (.iconst 1) 1 rfl rfl rfl ?_
        refine ev_jp (pc' := 46) (st' := [.int 1, .int (b2i (fM_isSpotAt a1 a2)), .ref 247]) hk (.goto 4) 3 rfl rfl rfl rfl rfl ?_
        exact rM_addLabel_j46 hx hM (some (.int (b2i (fM_isSpotAt a1 a2)))) rfl
def qG_spotNamed_2 (S : Nat) (xs : Nat → Int32) (I : zI) (C : zC) (Y : Nat → Int32) (Γ : Nat → zG) (D : zD) (O : Nat → Int32) (M : zM) (ou : Nat → Int64) (od : Nat → UInt64) (j : Nat) (g : Nat) (G : zG) (a1 : Int64) (y : (Option Value ⊕ String) × px_H) (s : Int32) : Prop := Ev S xs 249 2 [some (.ref g), some (.long a1), none, some (.int s)] [] (zH I C Y (gup Γ g G) D O M ou od j) y
set_option maxRecDepth 4000 in
theorem rG_spotNamed_b2 {S : Nat} {xs : Nat → Int32} {I : zI} {C : zC} {Y : Nat → Int32} {Γ : Nat → zG} {D : zD} {O : Nat → Int32} {M : zM} {ou : Nat → Int64} {od : Nat → UInt64} {j : Nat} {g : Nat} {G : zG} {a1 : Int64} {y : (Option Value ⊕ String) × px_H} {s : Int32} {x : (Int32) ⊕ (Int32)} (hg : isG g) (hx : fG_spotNamed_b2 G a1 s = some x) (hM : (Sum.elim (qG_spotNamed_2 S xs I C Y Γ D O M ou od j g G a1 y) (fun X : Int32 => y = (((.inl (some (.int X))), (zH I C Y (gup Γ g G) D O M ou od j)) : (Option Value ⊕ String) × px_H))) x) : qG_spotNamed_2 S xs I C Y Γ D O M ou od j g G a1 y s := by
  revert hx
  generalize s = a3
  intro hx
  have hk : pt_mt[249]? = some pt_r249 := rfl
  unfold fG_spotNamed_b2 at hx
  try dsimp only at hx
  refine ev_ls (L' := [some (.ref g), some (.long a1), none, some (.int a3)]) (st' := [.int a3]) (pc' := 3) hk (.iload_n 3) 1 rfl rfl rfl rfl ?_
  refine ev_ls (L' := [some (.ref g), some (.long a1), none, some (.int a3)]) (st' := [.ref g, .int a3]) (pc' := 4) hk (.aload_n 0) 1 rfl rfl rfl rfl ?_
  refine ev_gf (.int (gF G 0 4)) 7 hk rfl rfl (lk_globe hg gup_same) rfl rfl ?_
  refine ev_d2 32 10 hk rfl rfl rfl rfl (px_cge hx (fun hc hx => ?_) (fun hc hx => ?_))
  · refine ev_op (st' := [.int (-1)]) (pc' := 33) hk (.iconst (-1)) 1 rfl rfl rfl ?_
    cases hx
    obtain rfl := hM
    exact ev_retI hk rfl rfl
  · refine ev_ls (L' := [some (.ref g), some (.long a1), none, some (.int a3)]) (st' := [.ref g]) (pc' := 11) hk (.aload_n 0) 1 rfl rfl rfl rfl ?_
    refine ev_gf (.ref (g + 6)) 14 hk rfl rfl (lk_globe hg gup_same) rfl rfl ?_
    refine ev_ls (L' := [some (.ref g), some (.long a1), none, some (.int a3)]) (st' := [.int a3, .ref (g + 6)]) (pc' := 15) hk (.iload_n 3) 1 rfl rfl rfl rfl ?_
    obtain ⟨p3, hp3, hx⟩ := bnd_some hx
    have hpp3 := rix_lt hp3
    refine ev_aal (g + (7 + p3)) hp3 16 hk rfl (lk_spots hg gup_same) (by decide) (lk_sp hpp3) rfl ?_
    refine ev_gf (.long (gN G (7 + p3))) 19 hk rfl rfl (lk_spot hg hpp3 gup_same) rfl rfl ?_
    refine ev_ls (L' := [some (.ref g), some (.long a1), none, some (.int a3)]) (st' := [.long a1, .long (gN G (7 + p3))]) (pc' := 20) hk (.lload_n 1) 1 rfl rfl rfl rfl ?_
    refine ev_op (st' := [.int (lg_cmp (gN G (7 + p3)) a1)]) (pc' := 21) hk (.lcmp) 1 rfl rfl rfl ?_
    refine ev_d1 26 24 hk rfl rfl rfl rfl (px_lne hx (fun hc hx => ?_) (fun hc hx => ?_))
    · refine ev_ls (L' := [some (.ref g), some (.long a1), none, some (.int (a3 + 1))]) (st' := []) (pc' := 29) hk (.iinc 3 1) 3 rfl rfl rfl rfl ?_
      refine ev_jp (pc' := 2) (st' := []) hk (.goto (-27)) 3 rfl rfl rfl rfl rfl ?_
      cases hx
      exact hM
    · refine ev_ls (L' := [some (.ref g), some (.long a1), none, some (.int a3)]) (st' := [.int a3]) (pc' := 25) hk (.iload_n 3) 1 rfl rfl rfl rfl ?_
      cases hx
      obtain rfl := hM
      exact ev_retI hk rfl rfl
set_option maxRecDepth 2000 in
theorem rG_spotNamed {S : Nat} {xs : Nat → Int32} {I : zI} {C : zC} {Y : Nat → Int32} {Γ : Nat → zG} {D : zD} {O : Nat → Int32} {M : zM} {ou : Nat → Int64} {od : Nat → UInt64} {j : Nat} {g : Nat} {G : zG} {a1 : Int64} {X : Int32}  (hg : isG g) (hx : fG_spotNamed G a1 = some X) : Ev S xs 249 0 [some (.ref g), some (.long a1), none, none] [] (zH I C Y (gup Γ g G) D O M ou od j) (((.inl (some (.int X))), (zH I C Y (gup Γ g G) D O M ou od j)) : (Option Value ⊕ String) × px_H) := by
  generalize hM : (((.inl (some (.int X))), (zH I C Y (gup Γ g G) D O M ou od j)) : (Option Value ⊕ String) × px_H) = y
  replace hM := hM.symm
  have hk : pt_mt[249]? = some pt_r249 := rfl
  unfold fG_spotNamed at hx
  refine ev_op (st' := [.int 0]) (pc' := 1) hk (.iconst 0) 1 rfl rfl rfl ?_
  refine ev_ls (L' := [some (.ref g), some (.long a1), none, some (.int 0)]) (st' := []) (pc' := 2) hk (.istore_n 3) 1 rfl rfl rfl rfl ?_
  exact ev_iter (qG_spotNamed_2 S xs I C Y Γ D O M ou od j g G a1 _) (fun X : Int32 => y = (((.inl (some (.int X))), (zH I C Y (gup Γ g G) D O M ou od j)) : (Option Value ⊕ String) × px_H)) (fun s x hb hM => rG_spotNamed_b2 hg hb hM) fu _ _ hx hM 
set_option maxRecDepth 2000 in
theorem rG_hasRoomForSpot {S : Nat} {xs : Nat → Int32} {I : zI} {C : zC} {Y : Nat → Int32} {Γ : Nat → zG} {D : zD} {O : Nat → Int32} {M : zM} {ou : Nat → Int64} {od : Nat → UInt64} {j : Nat} {g : Nat} {G : zG}  {X : Bool}  (hg : isG g) (hx : fG_hasRoomForSpot G = X) : Ev S xs 223 0 [some (.ref g)] [] (zH I C Y (gup Γ g G) D O M ou od j) (((.inl (some (.int (b2i X)))), (zH I C Y (gup Γ g G) D O M ou od j)) : (Option Value ⊕ String) × px_H) := by
  generalize hM : (((.inl (some (.int (b2i X)))), (zH I C Y (gup Γ g G) D O M ou od j)) : (Option Value ⊕ String) × px_H) = y
  replace hM := hM.symm
  have hk : pt_mt[223]? = some pt_r223 := rfl
  unfold fG_hasRoomForSpot at hx
  refine ev_ls (L' := [some (.ref g)]) (st' := [.ref g]) (pc' := 1) hk (.aload_n 0) 1 rfl rfl rfl rfl ?_
  refine ev_gf (.int (gF G 0 4)) 4 hk rfl rfl (lk_globe hg gup_same) rfl rfl ?_
  refine ev_op (st' := [.int 10, .int (gF G 0 4)]) (pc' := 6) hk (.bipush 10) 2 rfl rfl rfl ?_
  refine ev_d2 13 9 hk rfl rfl rfl rfl (px_cge hx (fun hc hx => ?_) (fun hc hx => ?_))
  · refine ev_op (st' := [.int 0]) (pc' := 14) hk (.iconst 0) 1 rfl rfl rfl ?_
    cases hx
    obtain rfl := hM
    exact ev_retZ false rfl hk rfl rfl
  · refine ev_op (st' := [.int 1]) (pc' := 10) hk (.iconst 1) 1 rfl rfl rfl ?_
    refine ev_jp (pc' := 14) (st' := [.int 1]) hk (.goto 4) 3 rfl rfl rfl rfl rfl ?_
    cases hx
    obtain rfl := hM
    exact ev_retZ true rfl hk rfl rfl
set_option maxRecDepth 2000 in
theorem rG_localDay {S : Nat} {xs : Nat → Int32} {I : zI} {C : zC} {Y : Nat → Int32} {Γ : Nat → zG} {D : zD} {O : Nat → Int32} {M : zM} {ou : Nat → Int64} {od : Nat → UInt64} {j : Nat} {g : Nat} {G : zG} {a1 : Int32} {a2 : Int32} {X : Int32}  (hg : isG g) (hx : fG_localDay G a1 a2 = some X) : Ev S xs 235 0 [some (.ref g), some (.int a1), some (.int a2)] [] (zH I C Y (gup Γ g G) D O M ou od j) (((.inl (some (.int X))), (zH I C Y (gup Γ g G) D O M ou od j)) : (Option Value ⊕ String) × px_H) := by
  generalize hM : (((.inl (some (.int X))), (zH I C Y (gup Γ g G) D O M ou od j)) : (Option Value ⊕ String) × px_H) = y
  replace hM := hM.symm
  have hk : pt_mt[235]? = some pt_r235 := rfl
  unfold fG_localDay at hx
  refine ev_ls (L' := [some (.ref g), some (.int a1), some (.int a2)]) (st' := [.ref g]) (pc' := 1) hk (.aload_n 0) 1 rfl rfl rfl rfl ?_
  refine ev_ls (L' := [some (.ref g), some (.int a1), some (.int a2)]) (st' := [.int a1, .ref g]) (pc' := 2) hk (.iload_n 1) 1 rfl rfl rfl rfl ?_
  refine ev_ls (L' := [some (.ref g), some (.int a1), some (.int a2)]) (st' := [.int a2, .int a1, .ref g]) (pc' := 3) hk (.iload_n 2) 1 rfl rfl rfl rfl ?_
  obtain ⟨v1, hc2, hx⟩ := bnd_some hx
  refine ev_cv 237 2 [.int v1] 6 hk rfl rfl rfl rfl (lk_globe hg gup_same) rfl rfl rfl (rG_localHours hg hc2) rfl rfl rfl rfl ?_
  refine ev_op (st' := [.int 24, .int v1]) (pc' := 8) hk (.bipush 24) 2 rfl rfl rfl ?_
  obtain ⟨v3, hc4, hx⟩ := bnd_some hx
  refine ev_cs 1 2 [.int v3] 11 hk rfl rfl (by decide) rfl rfl rfl (rJ_floorDiv_7cf53 hc4) rfl rfl rfl rfl ?_
  cases hx
  obtain rfl := hM
  exact ev_retI hk rfl rfl
set_option maxRecDepth 4000 in
theorem rG_settle {S : Nat} {xs : Nat → Int32} {I : zI} {C : zC} {Y : Nat → Int32} {Γ : Nat → zG} {D : zD} {O : Nat → Int32} {M : zM} {ou : Nat → Int64} {od : Nat → UInt64} {j : Nat} {g : Nat} {G : zG} {a1 : Int64} {a3 : Int32} {a4 : Int32} {a5 : Bool} {X : Int32 × zG}  (hg : isG g) (hx : fG_settle G a1 a3 a4 a5 = some X) : Ev S xs 245 0 [some (.ref g), some (.long a1), none, some (.int a3), some (.int a4), some (.int (b2i a5)), none] [] (zH I C Y (gup Γ g G) D O M ou od j) (((.inl (some (.int X.1))), (zH I C Y (gup Γ g X.2) D O M ou od j)) : (Option Value ⊕ String) × px_H) := by
  generalize hM : (((.inl (some (.int X.1))), (zH I C Y (gup Γ g X.2) D O M ou od j)) : (Option Value ⊕ String) × px_H) = y
  replace hM := hM.symm
  have hk : pt_mt[245]? = some pt_r245 := rfl
  unfold fG_settle at hx
  refine ev_ls (L' := [some (.ref g), some (.long a1), none, some (.int a3), some (.int a4), some (.int (b2i a5)), none]) (st' := [.ref g]) (pc' := 1) hk (.aload_n 0) 1 rfl rfl rfl rfl ?_
  refine ev_cv 223 0 [.int (b2i (fG_hasRoomForSpot G))] 4 hk rfl rfl rfl rfl (lk_globe hg gup_same) rfl rfl rfl (rG_hasRoomForSpot hg rfl) rfl rfl rfl rfl ?_
  refine ev_d1 9 7 hk rfl rfl rfl rfl (px_bne hx (fun hc hx => ?_) (fun hc hx => ?_))
  · refine ev_ls (L' := [some (.ref g), some (.long a1), none, some (.int a3), some (.int a4), some (.int (b2i a5)), none]) (st' := [.ref g]) (pc' := 10) hk (.aload_n 0) 1 rfl rfl rfl rfl ?_
    refine ev_gf (.ref (g + 6)) 13 hk rfl rfl (lk_globe hg gup_same) rfl rfl ?_
    refine ev_ls (L' := [some (.ref g), some (.long a1), none, some (.int a3), some (.int a4), some (.int (b2i a5)), none]) (st' := [.ref g, .ref (g + 6)]) (pc' := 14) hk (.aload_n 0) 1 rfl rfl rfl rfl ?_
    refine ev_gf (.int (gF G 0 4)) 17 hk rfl rfl (lk_globe hg gup_same) rfl rfl ?_
    obtain ⟨p11, hp11, hx⟩ := bnd_some hx
    have hpp11 := rix_lt hp11
    refine ev_aal (g + (7 + p11)) hp11 18 hk rfl (lk_spots hg gup_same) (by decide) (lk_sp hpp11) rfl ?_
    refine ev_ls (L' := [some (.ref g), some (.long a1), none, some (.int a3), some (.int a4), some (.int (b2i a5)), some (.ref (g + (7 + p11)))]) (st' := []) (pc' := 20) hk (.astore 6) 2 rfl rfl rfl rfl ?_
    refine ev_ls (L' := [some (.ref g), some (.long a1), none, some (.int a3), some (.int a4), some (.int (b2i a5)), some (.ref (g + (7 + p11)))]) (st' := [.ref (g + (7 + p11))]) (pc' := 22) hk (.aload 6) 2 rfl rfl rfl rfl ?_
    refine ev_ls (L' := [some (.ref g), some (.long a1), none, some (.int a3), some (.int a4), some (.int (b2i a5)), some (.ref (g + (7 + p11)))]) (st' := [.long a1, .ref (g + (7 + p11))]) (pc' := 23) hk (.lload_n 1) 1 rfl rfl rfl rfl ?_
    obtain ⟨G12, hG12, hx⟩ := bnd_some hx
    have hG12 := Option.some.inj hG12
    refine ev_pf 26 hk rfl rfl (lk_spot hg hpp11 gup_same) rfl rfl rfl (sf_6_0 hg hpp11 gup_same hG12 gup_gup) rfl ?_
    refine ev_ls (L' := [some (.ref g), some (.long a1), none, some (.int a3), some (.int a4), some (.int (b2i a5)), some (.ref (g + (7 + p11)))]) (st' := [.ref (g + (7 + p11))]) (pc' := 28) hk (.aload 6) 2 rfl rfl rfl rfl ?_
    refine ev_ls (L' := [some (.ref g), some (.long a1), none, some (.int a3), some (.int a4), some (.int (b2i a5)), some (.ref (g + (7 + p11)))]) (st' := [.int (b2i a5), .ref (g + (7 + p11))]) (pc' := 30) hk (.iload 5) 2 rfl rfl rfl rfl ?_
    obtain ⟨G13, hG13, hx⟩ := bnd_some hx
    have hG13 := Option.some.inj hG13
    refine ev_pf 33 hk rfl rfl (lk_spot hg hpp11 gup_same) rfl (fit_b _) rfl (sf_6_1 hg hpp11 gup_same hG13 gup_gup) rfl ?_
    refine ev_ls (L' := [some (.ref g), some (.long a1), none, some (.int a3), some (.int a4), some (.int (b2i a5)), some (.ref (g + (7 + p11)))]) (st' := [.ref (g + (7 + p11))]) (pc' := 35) hk (.aload 6) 2 rfl rfl rfl rfl ?_
    refine ev_ls (L' := [some (.ref g), some (.long a1), none, some (.int a3), some (.int a4), some (.int (b2i a5)), some (.ref (g + (7 + p11)))]) (st' := [.int a3, .ref (g + (7 + p11))]) (pc' := 36) hk (.iload_n 3) 1 rfl rfl rfl rfl ?_
    obtain ⟨G14, hG14, hx⟩ := bnd_some hx
    have hG14 := Option.some.inj hG14
    refine ev_pf 39 hk rfl rfl (lk_spot hg hpp11 gup_same) rfl rfl rfl (sf_6_2 hg hpp11 gup_same hG14 gup_gup) rfl ?_
    refine ev_ls (L' := [some (.ref g), some (.long a1), none, some (.int a3), some (.int a4), some (.int (b2i a5)), some (.ref (g + (7 + p11)))]) (st' := [.ref (g + (7 + p11))]) (pc' := 41) hk (.aload 6) 2 rfl rfl rfl rfl ?_
    refine ev_ls (L' := [some (.ref g), some (.long a1), none, some (.int a3), some (.int a4), some (.int (b2i a5)), some (.ref (g + (7 + p11)))]) (st' := [.int a4, .ref (g + (7 + p11))]) (pc' := 43) hk (.iload 4) 2 rfl rfl rfl rfl ?_
    obtain ⟨G15, hG15, hx⟩ := bnd_some hx
    have hG15 := Option.some.inj hG15
    refine ev_pf 46 hk rfl rfl (lk_spot hg hpp11 gup_same) rfl rfl rfl (sf_6_3 hg hpp11 gup_same hG15 gup_gup) rfl ?_
    refine ev_ls (L' := [some (.ref g), some (.long a1), none, some (.int a3), some (.int a4), some (.int (b2i a5)), some (.ref (g + (7 + p11)))]) (st' := [.ref (g + (7 + p11))]) (pc' := 48) hk (.aload 6) 2 rfl rfl rfl rfl ?_
    refine ev_ls (L' := [some (.ref g), some (.long a1), none, some (.int a3), some (.int a4), some (.int (b2i a5)), some (.ref (g + (7 + p11)))]) (st' := [.ref g, .ref (g + (7 + p11))]) (pc' := 49) hk (.aload_n 0) 1 rfl rfl rfl rfl ?_
    refine ev_ls (L' := [some (.ref g), some (.long a1), none, some (.int a3), some (.int a4), some (.int (b2i a5)), some (.ref (g + (7 + p11)))]) (st' := [.int a3, .ref g, .ref (g + (7 + p11))]) (pc' := 50) hk (.iload_n 3) 1 rfl rfl rfl rfl ?_
    refine ev_ls (L' := [some (.ref g), some (.long a1), none, some (.int a3), some (.int a4), some (.int (b2i a5)), some (.ref (g + (7 + p11)))]) (st' := [.int a4, .int a3, .ref g, .ref (g + (7 + p11))]) (pc' := 52) hk (.iload 4) 2 rfl rfl rfl rfl ?_
    obtain ⟨v16, hc17, hx⟩ := bnd_some hx
    refine ev_cv 235 2 [.int v16, .ref (g + (7 + p11))] 55 hk rfl rfl rfl rfl (lk_globe hg gup_same) rfl rfl rfl (rG_localDay hg hc17) rfl rfl rfl rfl ?_
    obtain ⟨G18, hG18, hx⟩ := bnd_some hx
    have hG18 := Option.some.inj hG18
    refine ev_pf 58 hk rfl rfl (lk_spot hg hpp11 gup_same) rfl rfl rfl (sf_6_4 hg hpp11 gup_same hG18 gup_gup) rfl ?_
    refine ev_ls (L' := [some (.ref g), some (.long a1), none, some (.int a3), some (.int a4), some (.int (b2i a5)), some (.ref (g + (7 + p11)))]) (st' := [.ref (g + (7 + p11))]) (pc' := 60) hk (.aload 6) 2 rfl rfl rfl rfl ?_
    refine ev_op (st' := [.int 0, .ref (g + (7 + p11))]) (pc' := 61) hk (.iconst 0) 1 rfl rfl rfl ?_
    obtain ⟨G19, hG19, hx⟩ := bnd_some hx
    have hG19 := Option.some.inj hG19
    refine ev_pf 64 hk rfl rfl (lk_spot hg hpp11 gup_same) rfl rfl rfl (sf_6_5 hg hpp11 gup_same hG19 gup_gup) rfl ?_
    refine ev_ls (L' := [some (.ref g), some (.long a1), none, some (.int a3), some (.int a4), some (.int (b2i a5)), some (.ref (g + (7 + p11)))]) (st' := [.ref (g + (7 + p11))]) (pc' := 66) hk (.aload 6) 2 rfl rfl rfl rfl ?_
    refine ev_op (st' := [.int 0, .ref (g + (7 + p11))]) (pc' := 67) hk (.iconst 0) 1 rfl rfl rfl ?_
    obtain ⟨G20, hG20, hx⟩ := bnd_some hx
    have hG20 := Option.some.inj hG20
    refine ev_pf 70 hk rfl rfl (lk_spot hg hpp11 gup_same) rfl rfl rfl (sf_6_6 hg hpp11 gup_same hG20 gup_gup) rfl ?_
    refine ev_ls (L' := [some (.ref g), some (.long a1), none, some (.int a3), some (.int a4), some (.int (b2i a5)), some (.ref (g + (7 + p11)))]) (st' := [.ref (g + (7 + p11))]) (pc' := 72) hk (.aload 6) 2 rfl rfl rfl rfl ?_
    refine ev_op (st' := [.int 0, .ref (g + (7 + p11))]) (pc' := 73) hk (.iconst 0) 1 rfl rfl rfl ?_
    obtain ⟨G21, hG21, hx⟩ := bnd_some hx
    have hG21 := Option.some.inj hG21
    refine ev_pf 76 hk rfl rfl (lk_spot hg hpp11 gup_same) rfl rfl rfl (sf_6_7 hg hpp11 gup_same hG21 gup_gup) rfl ?_
    refine ev_ls (L' := [some (.ref g), some (.long a1), none, some (.int a3), some (.int a4), some (.int (b2i a5)), some (.ref (g + (7 + p11)))]) (st' := [.ref g]) (pc' := 77) hk (.aload_n 0) 1 rfl rfl rfl rfl ?_
    refine ev_op (st' := [.ref g, .ref g]) (pc' := 78) hk (.dup) 1 rfl rfl rfl ?_
    refine ev_gf (.int (gF G21 0 4)) 81 hk rfl rfl (lk_globe hg gup_same) rfl rfl ?_
    refine ev_op (st' := [.int 1, .int (gF G21 0 4), .ref g]) (pc' := 82) hk (.iconst 1) 1 rfl rfl rfl ?_
    refine ev_op (st' := [.int ((gF G21 0 4) + 1), .ref g]) (pc' := 83) hk (.iadd) 1 rfl rfl rfl ?_
    obtain ⟨G22, hG22, hx⟩ := bnd_some hx
    have hG22 := Option.some.inj hG22
    refine ev_pf 86 hk rfl rfl (lk_globe hg gup_same) rfl rfl rfl (sf_1_4 hg  gup_same hG22 gup_gup) rfl ?_
    refine ev_ls (L' := [some (.ref g), some (.long a1), none, some (.int a3), some (.int a4), some (.int (b2i a5)), some (.ref (g + (7 + p11)))]) (st' := [.ref g]) (pc' := 87) hk (.aload_n 0) 1 rfl rfl rfl rfl ?_
    refine ev_gf (.int (gF G22 0 4)) 90 hk rfl rfl (lk_globe hg gup_same) rfl rfl ?_
    refine ev_op (st' := [.int 1, .int (gF G22 0 4)]) (pc' := 91) hk (.iconst 1) 1 rfl rfl rfl ?_
    refine ev_op (st' := [.int ((gF G22 0 4) - 1)]) (pc' := 92) hk (.isub) 1 rfl rfl rfl ?_
    cases hx
    obtain rfl := hM
    exact ev_retI hk rfl rfl
  · refine ev_op (st' := [.int (-1)]) (pc' := 8) hk (.iconst (-1)) 1 rfl rfl rfl ?_
    cases hx
    obtain rfl := hM
    exact ev_retI hk rfl rfl
set_option maxRecDepth 4000 in
theorem rX_nameSpot_j44 {S : Nat} {xs : Nat → Int32} {I : zI} {C : zC} {Y : Nat → Int32} {Γ : Nat → zG} {D : zD} {O : Nat → Int32} {M : zM} {ou : Nat → Int64} {od : Nat → UInt64} {j : Nat}  {y : (Option Value ⊕ String) × px_H} {x : (Int32 ⊕ String) × zI × (Nat → Int32) × (Nat → zG)}  (hx : fX_nameSpot_j44 I Y Γ = some x) (hM : (fun X : (Int32 ⊕ String) × zI × (Nat → Int32) × (Nat → zG) => y = (Sum.elim (fun v => ((.inl (some (.int v))), (zH X.2.1 C X.2.2.1 X.2.2.2 D O M ou od j))) (fun E => (.inr E, (zH X.2.1 C X.2.2.1 X.2.2.2 D O M ou od (j + 1)))) X.1 : (Option Value ⊕ String) × px_H)) x) (u0 : Option Value) (hu0 : px_cz u0 = true) (u1 : Option Value) (hu1 : px_cz u1 = true) (u2 : Option Value) (hu2 : px_cz u2 = true) (u3 : Option Value) (hu3 : px_cz u3 = true) (u4 : Option Value) : Ev S xs 339 44 [u0, u1, u2, u3, u4, none] [] (zH I C Y Γ D O M ou od j) y := by
  have hk : pt_mt[339]? = some pt_r339 := rfl
  unfold fX_nameSpot_j44 at hx
  cases hx
  obtain rfl := hM
  exact ev_tw hk rfl (by rfl) rfl zH_j
set_option maxRecDepth 2000 in
theorem rX_nameSpot {S : Nat} {xs : Nat → Int32} {I : zI} {C : zC} {Y : Nat → Int32} {Γ : Nat → zG} {D : zD} {O : Nat → Int32} {M : zM} {ou : Nat → Int64} {od : Nat → UInt64} {j : Nat} {a1 : Int32} {a2 : Int32} {a3 : Bool} {X : (Int32 ⊕ String) × zI × (Nat → Int32) × (Nat → zG)}   (hx : fX_nameSpot I Y Γ a1 a2 a3 = some X) : Ev S xs 339 0 [some (.ref 0), some (.int a1), some (.int a2), some (.int (b2i a3)), none, none] [] (zH I C Y Γ D O M ou od j) (Sum.elim (fun v => ((.inl (some (.int v))), (zH X.2.1 C X.2.2.1 X.2.2.2 D O M ou od j))) (fun E => (.inr E, (zH X.2.1 C X.2.2.1 X.2.2.2 D O M ou od (j + 1)))) X.1 : (Option Value ⊕ String) × px_H) := by
  generalize hM : (Sum.elim (fun v => ((.inl (some (.int v))), (zH X.2.1 C X.2.2.1 X.2.2.2 D O M ou od j))) (fun E => (.inr E, (zH X.2.1 C X.2.2.1 X.2.2.2 D O M ou od (j + 1)))) X.1 : (Option Value ⊕ String) × px_H) = y
  replace hM := hM.symm
  have hk : pt_mt[339]? = some pt_r339 := rfl
  unfold fX_nameSpot at hx
  refine ev_ls (L' := [some (.ref 0), some (.int a1), some (.int a2), some (.int (b2i a3)), none, none]) (st' := [.int a1]) (pc' := 1) hk (.iload_n 1) 1 rfl rfl rfl rfl ?_
  refine ev_ls (L' := [some (.ref 0), some (.int a1), some (.int a2), some (.int (b2i a3)), none, none]) (st' := [.int a2, .int a1]) (pc' := 2) hk (.iload_n 2) 1 rfl rfl rfl rfl ?_
  rcases bnx_some hx with ⟨⟨⟩, hc2, hx⟩ | ⟨E3, hc2, hx⟩
  · skip
    refine ev_cs 343 2 [] 5 hk rfl rfl (by decide) rfl rfl rfl (rX_needPlace hc2) rfl rfl rfl rfl ?_
    refine ev_ls (L' := [some (.ref 0), some (.int a1), some (.int a2), some (.int (b2i a3)), none, none]) (st' := [.ref 0]) (pc' := 6) hk (.aload_n 0) 1 rfl rfl rfl rfl ?_
    refine ev_gf (.ref 1) 9 hk rfl rfl lk_dh rfl rfl ?_
    obtain ⟨v5, hc6, hx⟩ := bnd_some hx
    refine ev_cv 278 0 [.long v5] 12 hk rfl rfl rfl rfl lk_input rfl rfl rfl (rI_wholeWord hc6) rfl rfl rfl rfl ?_
    refine ev_ls (L' := [some (.ref 0), some (.int a1), some (.int a2), some (.int (b2i a3)), some (.long v5), none]) (st' := []) (pc' := 14) hk (.lstore 4) 2 rfl rfl rfl rfl ?_
    refine ev_ls (L' := [some (.ref 0), some (.int a1), some (.int a2), some (.int (b2i a3)), some (.long v5), none]) (st' := [.long v5]) (pc' := 16) hk (.lload 4) 2 rfl rfl rfl rfl ?_
    refine ev_op (st' := [.long 0, .long v5]) (pc' := 17) hk (.lconst 0) 1 rfl rfl rfl ?_
    refine ev_op (st' := [.int (lg_cmp v5 0)]) (pc' := 18) hk (.lcmp) 1 rfl rfl rfl ?_
    refine ev_d1 44 21 hk rfl rfl rfl rfl (px_leq hx (fun hc hx => ?_) (fun hc hx => ?_))
    · exact rX_nameSpot_j44 hx hM (some (.ref 0)) rfl (some (.int a1)) rfl (some (.int a2)) rfl (some (.int (b2i a3))) rfl (some (.long v5))
    · refine ev_ls (L' := [some (.ref 0), some (.int a1), some (.int a2), some (.int (b2i a3)), some (.long v5), none]) (st' := [.ref 0]) (pc' := 22) hk (.aload_n 0) 1 rfl rfl rfl rfl ?_
      refine ev_gf (.ref 10) 25 hk rfl rfl lk_dh rfl rfl ?_
      refine ev_ls (L' := [some (.ref 0), some (.int a1), some (.int a2), some (.int (b2i a3)), some (.long v5), none]) (st' := [.long v5, .ref 10]) (pc' := 27) hk (.lload 4) 2 rfl rfl rfl rfl ?_
      obtain ⟨v7, hc8, hx⟩ := bnd_some hx
      refine ev_cv 249 1 [.int v7] 30 hk rfl rfl rfl rfl (lk_globe isG_10 rfl) rfl rfl rfl (ev_gs2 (rG_spotNamed isG_10 hc8)) rfl rfl rfl rfl ?_
      refine ev_op (st' := [.int (-1), .int v7]) (pc' := 31) hk (.iconst (-1)) 1 rfl rfl rfl ?_
      refine ev_d2 44 34 hk rfl rfl rfl rfl (px_cne hx (fun hc hx => ?_) (fun hc hx => ?_))
      · exact rX_nameSpot_j44 hx hM (some (.ref 0)) rfl (some (.int a1)) rfl (some (.int a2)) rfl (some (.int (b2i a3))) rfl (some (.long v5))
      · refine ev_ls (L' := [some (.ref 0), some (.int a1), some (.int a2), some (.int (b2i a3)), some (.long v5), none]) (st' := [.ref 0]) (pc' := 35) hk (.aload_n 0) 1 rfl rfl rfl rfl ?_
        refine ev_gf (.ref 10) 38 hk rfl rfl lk_dh rfl rfl ?_
        refine ev_cv 223 0 [.int (b2i (fG_hasRoomForSpot (Γ 10)))] 41 hk rfl rfl rfl rfl (lk_globe isG_10 rfl) rfl rfl rfl (ev_gs2 (rG_hasRoomForSpot isG_10 rfl)) rfl rfl rfl rfl ?_
        refine ev_d1 55 44 hk rfl rfl rfl rfl (px_bne hx (fun hc hx => ?_) (fun hc hx => ?_))
        · refine ev_ls (L' := [some (.ref 0), some (.int a1), some (.int a2), some (.int (b2i a3)), some (.long v5), none]) (st' := [.ref 0]) (pc' := 56) hk (.aload_n 0) 1 rfl rfl rfl rfl ?_
          refine ev_gf (.ref 88) 59 hk rfl rfl lk_dh rfl rfl ?_
          refine ev_ls (L' := [some (.ref 0), some (.int a1), some (.int a2), some (.int (b2i a3)), some (.long v5), none]) (st' := [.ref 0, .ref 88]) (pc' := 60) hk (.aload_n 0) 1 rfl rfl rfl rfl ?_
          refine ev_gf (.ref 10) 63 hk rfl rfl lk_dh rfl rfl ?_
          obtain ⟨Y9, Γ10, hc11, hx⟩ := bnd2_some hx
          refine ev_cv 261 1 [] 66 hk rfl rfl rfl rfl lk_hist rfl rfl rfl (rY_remember isG_10 (by decide) hc11) rfl rfl rfl rfl ?_
          refine ev_ls (L' := [some (.ref 0), some (.int a1), some (.int a2), some (.int (b2i a3)), some (.long v5), none]) (st' := [.ref 0]) (pc' := 67) hk (.aload_n 0) 1 rfl rfl rfl rfl ?_
          refine ev_gf (.ref 1) 70 hk rfl rfl lk_dh rfl rfl ?_
          refine ev_op (st' := [.int 0, .ref 1]) (pc' := 71) hk (.iconst 0) 1 rfl rfl rfl ?_
          obtain ⟨I12, hI12, hx⟩ := bnd_some hx
          have hI12 := Option.some.inj hI12
          refine ev_pf 74 hk rfl rfl lk_input rfl rfl rfl (sf_3_1 hI12) rfl ?_
          refine ev_ls (L' := [some (.ref 0), some (.int a1), some (.int a2), some (.int (b2i a3)), some (.long v5), none]) (st' := [.ref 0]) (pc' := 75) hk (.aload_n 0) 1 rfl rfl rfl rfl ?_
          refine ev_gf (.ref 10) 78 hk rfl rfl lk_dh rfl rfl ?_
          refine ev_ls (L' := [some (.ref 0), some (.int a1), some (.int a2), some (.int (b2i a3)), some (.long v5), none]) (st' := [.long v5, .ref 10]) (pc' := 80) hk (.lload 4) 2 rfl rfl rfl rfl ?_
          refine ev_ls (L' := [some (.ref 0), some (.int a1), some (.int a2), some (.int (b2i a3)), some (.long v5), none]) (st' := [.int a1, .long v5, .ref 10]) (pc' := 81) hk (.iload_n 1) 1 rfl rfl rfl rfl ?_
          refine ev_ls (L' := [some (.ref 0), some (.int a1), some (.int a2), some (.int (b2i a3)), some (.long v5), none]) (st' := [.int a2, .int a1, .long v5, .ref 10]) (pc' := 82) hk (.iload_n 2) 1 rfl rfl rfl rfl ?_
          refine ev_ls (L' := [some (.ref 0), some (.int a1), some (.int a2), some (.int (b2i a3)), some (.long v5), none]) (st' := [.int (b2i a3), .int a2, .int a1, .long v5, .ref 10]) (pc' := 83) hk (.iload_n 3) 1 rfl rfl rfl rfl ?_
          obtain ⟨v14, G13, hc15, hx⟩ := bnd2_some hx
          refine ev_cv 245 4 [.int v14] 86 hk rfl rfl rfl rfl (lk_globe isG_10 rfl) rfl rfl rfl (ev_gs (rG_settle isG_10 hc15)) rfl rfl rfl rfl ?_
          cases hx
          obtain rfl := hM
          exact ev_retI hk rfl rfl
        · exact rX_nameSpot_j44 hx hM (some (.ref 0)) rfl (some (.int a1)) rfl (some (.int a2)) rfl (some (.int (b2i a3))) rfl (some (.long v5))
  · skip
    cases hx
    obtain rfl := hM
    exact ev_csX 343 2 hk rfl rfl (by decide) rfl rfl rfl rfl (rX_needPlace hc2) rfl rfl
set_option maxRecDepth 2000 in
theorem rX_addTraveller {S : Nat} {xs : Nat → Int32} {I : zI} {C : zC} {Y : Nat → Int32} {Γ : Nat → zG} {D : zD} {O : Nat → Int32} {M : zM} {ou : Nat → Int64} {od : Nat → UInt64} {j : Nat} {a1 : Int32} {a2 : Int32} {X : (Int32 ⊕ String) × zI × (Nat → Int32) × (Nat → zG)}   (hx : fX_addTraveller I Y Γ a1 a2 = some X) : Ev S xs 302 0 [some (.ref 0), some (.int a1), some (.int a2)] [] (zH I C Y Γ D O M ou od j) (Sum.elim (fun v => ((.inl (some (.int v))), (zH X.2.1 C X.2.2.1 X.2.2.2 D O M ou od j))) (fun E => (.inr E, (zH X.2.1 C X.2.2.1 X.2.2.2 D O M ou od (j + 1)))) X.1 : (Option Value ⊕ String) × px_H) := by
  generalize hM : (Sum.elim (fun v => ((.inl (some (.int v))), (zH X.2.1 C X.2.2.1 X.2.2.2 D O M ou od j))) (fun E => (.inr E, (zH X.2.1 C X.2.2.1 X.2.2.2 D O M ou od (j + 1)))) X.1 : (Option Value ⊕ String) × px_H) = y
  replace hM := hM.symm
  have hk : pt_mt[302]? = some pt_r302 := rfl
  unfold fX_addTraveller at hx
  refine ev_ls (L' := [some (.ref 0), some (.int a1), some (.int a2)]) (st' := [.ref 0]) (pc' := 1) hk (.aload_n 0) 1 rfl rfl rfl rfl ?_
  refine ev_ls (L' := [some (.ref 0), some (.int a1), some (.int a2)]) (st' := [.int a1, .ref 0]) (pc' := 2) hk (.iload_n 1) 1 rfl rfl rfl rfl ?_
  refine ev_ls (L' := [some (.ref 0), some (.int a1), some (.int a2)]) (st' := [.int a2, .int a1, .ref 0]) (pc' := 3) hk (.iload_n 2) 1 rfl rfl rfl rfl ?_
  refine ev_op (st' := [.int 1, .int a2, .int a1, .ref 0]) (pc' := 4) hk (.iconst 1) 1 rfl rfl rfl ?_
  obtain ⟨r7, I1, Y2, Γ3, hc4, hx⟩ := bnd4_some hx
  rcases r7 with v6 | E5
  · simp only [Sum.elim_inl] at hx
    refine ev_cv 339 3 [.int v6] 7 hk rfl rfl rfl rfl lk_dh rfl rfl rfl (rX_nameSpot hc4) rfl rfl rfl rfl ?_
    cases hx
    obtain rfl := hM
    exact ev_retI hk rfl rfl
  · simp only [Sum.elim_inr] at hx
    cases hx
    obtain rfl := hM
    exact ev_cvX 339 3 hk rfl rfl rfl rfl lk_dh rfl rfl rfl rfl (rX_nameSpot hc4) rfl rfl
set_option maxRecDepth 2000 in
theorem rw_addTraveller {S : Nat} {xs : Nat → Int32} {I : zI} {C : zC} {Y : Nat → Int32} {Γ : Nat → zG} {D : zD} {O : Nat → Int32} {M : zM} {ou : Nat → Int64} {od : Nat → UInt64} {j : Nat} {a1 : Int32} {a2 : Int32} {X : Int32 × zI × (Nat → Int32) × (Nat → zG) × (Nat → Int64) × Nat}   (hx : fw_addTraveller I Y Γ ou j a1 a2 = some X) : Ev S xs 370 0 [some (.ref 0), some (.int a1), some (.int a2), some (.ref 261), none] [] (zH I C Y Γ D O M ou od j) (((.inl (some (.int X.1))), (zH X.2.1 C X.2.2.1 X.2.2.2.1 D O M X.2.2.2.2.1 od X.2.2.2.2.2)) : (Option Value ⊕ String) × px_H) := by
  generalize hM : (((.inl (some (.int X.1))), (zH X.2.1 C X.2.2.1 X.2.2.2.1 D O M X.2.2.2.2.1 od X.2.2.2.2.2)) : (Option Value ⊕ String) × px_H) = y
  replace hM := hM.symm
  have hk : pt_mt[370]? = some pt_r370 := rfl
  unfold fw_addTraveller at hx
  refine ev_ls (L' := [some (.ref 0), some (.int a1), some (.int a2), some (.ref 261), none]) (st' := [.ref 261]) (pc' := 1) hk (.aload_n 3) 1 rfl rfl rfl rfl ?_
  refine ev_op (st' := [.int 0, .ref 261]) (pc' := 2) hk (.iconst 0) 1 rfl rfl rfl ?_
  refine ev_ls (L' := [some (.ref 0), some (.int a1), some (.int a2), some (.ref 261), none]) (st' := [.ref 0, .int 0, .ref 261]) (pc' := 3) hk (.aload_n 0) 1 rfl rfl rfl rfl ?_
  refine ev_ls (L' := [some (.ref 0), some (.int a1), some (.int a2), some (.ref 261), none]) (st' := [.int a1, .ref 0, .int 0, .ref 261]) (pc' := 4) hk (.iload_n 1) 1 rfl rfl rfl rfl ?_
  refine ev_ls (L' := [some (.ref 0), some (.int a1), some (.int a2), some (.ref 261), none]) (st' := [.int a2, .int a1, .ref 0, .int 0, .ref 261]) (pc' := 5) hk (.iload_n 2) 1 rfl rfl rfl rfl ?_
  obtain ⟨r9, I2, Y3, Γ4, hc5, hx⟩ := bnd4_some hx
  rcases r9 with v7 | E6
  · simp only [Sum.elim_inl] at hx
    refine ev_cv 302 2 [.int v7, .int 0, .ref 261] 8 hk rfl rfl rfl rfl lk_dh rfl rfl rfl (rX_addTraveller hc5) rfl rfl rfl rfl ?_
    refine ev_op (st' := [.long (Int32.toInt64 v7), .int 0, .ref 261]) (pc' := 9) hk (.i2l) 1 rfl rfl rfl ?_
    obtain ⟨ou8, hou8, hx⟩ := bnd_some hx
    have hou8 := Option.some.inj hou8
    refine ev_las (A := (vp_updL ou 0 (Int32.toInt64 v7))) rfl 10 hk rfl lk_ou (sa_ou hou8) rfl ?_
    refine ev_jp (pc' := 21) (st' := []) hk (.goto 11) 3 rfl rfl rfl rfl rfl ?_
    refine ev_op (st' := [.int 0]) (pc' := 22) hk (.iconst 0) 1 rfl rfl rfl ?_
    cases hx
    obtain rfl := hM
    exact ev_retI hk rfl rfl
  · simp only [Sum.elim_inr] at hx
    rcases ite_or hx with ⟨hE, hx⟩ | ⟨hE, hx⟩
    · subst hE
      refine ev_cvC 302 2 15 hk rfl rfl rfl rfl lk_dh rfl rfl rfl (t := 13) (by decide +kernel) (L' := [some (.ref 0), some (.int a1), some (.int a2), some (.ref 261), none]) rfl (rX_addTraveller hc5) rfl rfl ?_
      refine ev_op (st' := [.int 1]) (pc' := 16) hk (.iconst 1) 1 rfl rfl rfl ?_
      cases hx
      obtain rfl := hM
      exact ev_retI hk rfl rfl
    rcases ite_or hx with ⟨hE, hx⟩ | ⟨hE, hx⟩
    · subst hE
      refine ev_cvC 302 2 19 hk rfl rfl rfl rfl lk_dh rfl rfl rfl (t := 17) (by decide +kernel) (L' := [some (.ref 0), some (.int a1), some (.int a2), some (.ref 261), none]) rfl (rX_addTraveller hc5) rfl rfl ?_
      refine ev_op (st' := [.int 2]) (pc' := 20) hk (.iconst 2) 1 rfl rfl rfl ?_
      cases hx
      obtain rfl := hM
      exact ev_retI hk rfl rfl
    cases hx
set_option maxRecDepth 2000 in
theorem rM_nameOf {S : Nat} {xs : Nat → Int32} {I : zI} {C : zC} {Y : Nat → Int32} {Γ : Nat → zG} {D : zD} {O : Nat → Int32} {M : zM} {ou : Nat → Int64} {od : Nat → UInt64} {j : Nat} {a1 : Int32} {X : Int64}   (hx : fM_nameOf M a1 = some X) : Ev S xs 142 0 [some (.ref 247), some (.int a1)] [] (zH I C Y Γ D O M ou od j) (((.inl (some (.long X))), (zH I C Y Γ D O M ou od j)) : (Option Value ⊕ String) × px_H) := by
  generalize hM : (((.inl (some (.long X))), (zH I C Y Γ D O M ou od j)) : (Option Value ⊕ String) × px_H) = y
  replace hM := hM.symm
  have hk : pt_mt[142]? = some pt_r142 := rfl
  unfold fM_nameOf at hx
  refine ev_ls (L' := [some (.ref 247), some (.int a1)]) (st' := [.ref 247]) (pc' := 1) hk (.aload_n 0) 1 rfl rfl rfl rfl ?_
  refine ev_ls (L' := [some (.ref 247), some (.int a1)]) (st' := [.int a1, .ref 247]) (pc' := 2) hk (.iload_n 1) 1 rfl rfl rfl rfl ?_
  refine ev_op (st' := [.int 0, .int a1, .ref 247]) (pc' := 3) hk (.iconst 0) 1 rfl rfl rfl ?_
  obtain ⟨v1, hc2, hx⟩ := bnd_some hx
  refine ev_cv 145 2 [.int v1] 6 hk rfl rfl rfl rfl lk_model rfl rfl rfl (rM_of hc2) rfl rfl rfl rfl ?_
  refine ev_op (st' := [.long (Int32.toInt64 v1)]) (pc' := 7) hk (.i2l) 1 rfl rfl rfl ?_
  refine ev_op (st' := [.int 20, .long (Int32.toInt64 v1)]) (pc' := 9) hk (.bipush 20) 2 rfl rfl rfl ?_
  refine ev_op (st' := [.long ((Int32.toInt64 v1) <<< (Int32.toInt64 20 &&& 63))]) (pc' := 10) hk (.lshl) 1 rfl rfl rfl ?_
  refine ev_ls (L' := [some (.ref 247), some (.int a1)]) (st' := [.ref 247, .long ((Int32.toInt64 v1) <<< (Int32.toInt64 20 &&& 63))]) (pc' := 11) hk (.aload_n 0) 1 rfl rfl rfl rfl ?_
  refine ev_ls (L' := [some (.ref 247), some (.int a1)]) (st' := [.int a1, .ref 247, .long ((Int32.toInt64 v1) <<< (Int32.toInt64 20 &&& 63))]) (pc' := 12) hk (.iload_n 1) 1 rfl rfl rfl rfl ?_
  refine ev_op (st' := [.int 1, .int a1, .ref 247, .long ((Int32.toInt64 v1) <<< (Int32.toInt64 20 &&& 63))]) (pc' := 13) hk (.iconst 1) 1 rfl rfl rfl ?_
  obtain ⟨v3, hc4, hx⟩ := bnd_some hx
  refine ev_cv 145 2 [.int v3, .long ((Int32.toInt64 v1) <<< (Int32.toInt64 20 &&& 63))] 16 hk rfl rfl rfl rfl lk_model rfl rfl rfl (rM_of hc4) rfl rfl rfl rfl ?_
  refine ev_op (st' := [.long (Int32.toInt64 v3), .long ((Int32.toInt64 v1) <<< (Int32.toInt64 20 &&& 63))]) (pc' := 17) hk (.i2l) 1 rfl rfl rfl ?_
  refine ev_op (st' := [.long (((Int32.toInt64 v1) <<< (Int32.toInt64 20 &&& 63)) ||| (Int32.toInt64 v3))]) (pc' := 18) hk (.lor) 1 rfl rfl rfl ?_
  cases hx
  obtain rfl := hM
  exact ev_retL hk rfl rfl
def qM_spotNamed_2 (S : Nat) (xs : Nat → Int32) (I : zI) (C : zC) (Y : Nat → Int32) (Γ : Nat → zG) (D : zD) (O : Nat → Int32) (M : zM) (ou : Nat → Int64) (od : Nat → UInt64) (j : Nat) (a1 : Int64) (y : (Option Value ⊕ String) × px_H) (s : Int32) : Prop := Ev S xs 167 2 [some (.ref 247), some (.long a1), none, some (.int s)] [] (zH I C Y Γ D O M ou od j) y
set_option maxRecDepth 4000 in
theorem rM_spotNamed_b2 {S : Nat} {xs : Nat → Int32} {I : zI} {C : zC} {Y : Nat → Int32} {Γ : Nat → zG} {D : zD} {O : Nat → Int32} {M : zM} {ou : Nat → Int64} {od : Nat → UInt64} {j : Nat} {a1 : Int64} {y : (Option Value ⊕ String) × px_H} {s : Int32} {x : (Int32) ⊕ (Int32)}  (hx : fM_spotNamed_b2 M a1 s = some x) (hM : (Sum.elim (qM_spotNamed_2 S xs I C Y Γ D O M ou od j a1 y) (fun X : Int32 => y = (((.inl (some (.int X))), (zH I C Y Γ D O M ou od j)) : (Option Value ⊕ String) × px_H))) x) : qM_spotNamed_2 S xs I C Y Γ D O M ou od j a1 y s := by
  revert hx
  generalize s = a3
  intro hx
  have hk : pt_mt[167]? = some pt_r167 := rfl
  unfold fM_spotNamed_b2 at hx
  try dsimp only at hx
  refine ev_ls (L' := [some (.ref 247), some (.long a1), none, some (.int a3)]) (st' := [.int a3]) (pc' := 3) hk (.iload_n 3) 1 rfl rfl rfl rfl ?_
  refine ev_ls (L' := [some (.ref 247), some (.long a1), none, some (.int a3)]) (st' := [.ref 247, .int a3]) (pc' := 4) hk (.aload_n 0) 1 rfl rfl rfl rfl ?_
  refine ev_gf (.ref 249) 7 hk rfl rfl lk_model rfl rfl ?_
  refine ev_op (st' := [.int 1, .ref 249, .int a3]) (pc' := 8) hk (.iconst 1) 1 rfl rfl rfl ?_
  refine ev_ial (v := ((mA M 249) 1)) rfl 9 hk rfl lk_m249 rfl ?_
  refine ev_d2 30 12 hk rfl rfl rfl rfl (px_cge hx (fun hc hx => ?_) (fun hc hx => ?_))
  · refine ev_op (st' := [.int (-1)]) (pc' := 31) hk (.iconst (-1)) 1 rfl rfl rfl ?_
    cases hx
    obtain rfl := hM
    exact ev_retI hk rfl rfl
  · refine ev_ls (L' := [some (.ref 247), some (.long a1), none, some (.int a3)]) (st' := [.ref 247]) (pc' := 13) hk (.aload_n 0) 1 rfl rfl rfl rfl ?_
    refine ev_ls (L' := [some (.ref 247), some (.long a1), none, some (.int a3)]) (st' := [.int a3, .ref 247]) (pc' := 14) hk (.iload_n 3) 1 rfl rfl rfl rfl ?_
    obtain ⟨v1, hc2, hx⟩ := bnd_some hx
    refine ev_cv 142 1 [.long v1] 17 hk rfl rfl rfl rfl lk_model rfl rfl rfl (rM_nameOf hc2) rfl rfl rfl rfl ?_
    refine ev_ls (L' := [some (.ref 247), some (.long a1), none, some (.int a3)]) (st' := [.long a1, .long v1]) (pc' := 18) hk (.lload_n 1) 1 rfl rfl rfl rfl ?_
    refine ev_op (st' := [.int (lg_cmp v1 a1)]) (pc' := 19) hk (.lcmp) 1 rfl rfl rfl ?_
    refine ev_d1 24 22 hk rfl rfl rfl rfl (px_lne hx (fun hc hx => ?_) (fun hc hx => ?_))
    · refine ev_ls (L' := [some (.ref 247), some (.long a1), none, some (.int (a3 + 1))]) (st' := []) (pc' := 27) hk (.iinc 3 1) 3 rfl rfl rfl rfl ?_
      refine ev_jp (pc' := 2) (st' := []) hk (.goto (-25)) 3 rfl rfl rfl rfl rfl ?_
      cases hx
      exact hM
    · refine ev_ls (L' := [some (.ref 247), some (.long a1), none, some (.int a3)]) (st' := [.int a3]) (pc' := 23) hk (.iload_n 3) 1 rfl rfl rfl rfl ?_
      cases hx
      obtain rfl := hM
      exact ev_retI hk rfl rfl
set_option maxRecDepth 2000 in
theorem rM_spotNamed {S : Nat} {xs : Nat → Int32} {I : zI} {C : zC} {Y : Nat → Int32} {Γ : Nat → zG} {D : zD} {O : Nat → Int32} {M : zM} {ou : Nat → Int64} {od : Nat → UInt64} {j : Nat} {a1 : Int64} {X : Int32}   (hx : fM_spotNamed M a1 = some X) : Ev S xs 167 0 [some (.ref 247), some (.long a1), none, none] [] (zH I C Y Γ D O M ou od j) (((.inl (some (.int X))), (zH I C Y Γ D O M ou od j)) : (Option Value ⊕ String) × px_H) := by
  generalize hM : (((.inl (some (.int X))), (zH I C Y Γ D O M ou od j)) : (Option Value ⊕ String) × px_H) = y
  replace hM := hM.symm
  have hk : pt_mt[167]? = some pt_r167 := rfl
  unfold fM_spotNamed at hx
  refine ev_op (st' := [.int 0]) (pc' := 1) hk (.iconst 0) 1 rfl rfl rfl ?_
  refine ev_ls (L' := [some (.ref 247), some (.long a1), none, some (.int 0)]) (st' := []) (pc' := 2) hk (.istore_n 3) 1 rfl rfl rfl rfl ?_
  exact ev_iter (qM_spotNamed_2 S xs I C Y Γ D O M ou od j a1 _) (fun X : Int32 => y = (((.inl (some (.int X))), (zH I C Y Γ D O M ou od j)) : (Option Value ⊕ String) × px_H)) (fun s x hb hM => rM_spotNamed_b2 hb hM) fu _ _ hx hM 
set_option maxRecDepth 2000 in
theorem rM_mayAdd {S : Nat} {xs : Nat → Int32} {I : zI} {C : zC} {Y : Nat → Int32} {Γ : Nat → zG} {D : zD} {O : Nat → Int32} {M : zM} {ou : Nat → Int64} {od : Nat → UInt64} {j : Nat} {a1 : Int64} {X : Bool}   (hx : fM_mayAdd M a1 = some X) : Ev S xs 130 0 [some (.ref 247), some (.long a1), none] [] (zH I C Y Γ D O M ou od j) (((.inl (some (.int (b2i X)))), (zH I C Y Γ D O M ou od j)) : (Option Value ⊕ String) × px_H) := by
  generalize hM : (((.inl (some (.int (b2i X)))), (zH I C Y Γ D O M ou od j)) : (Option Value ⊕ String) × px_H) = y
  replace hM := hM.symm
  have hk : pt_mt[130]? = some pt_r130 := rfl
  unfold fM_mayAdd at hx
  refine ev_ls (L' := [some (.ref 247), some (.long a1), none]) (st' := [.long a1]) (pc' := 1) hk (.lload_n 1) 1 rfl rfl rfl rfl ?_
  refine ev_op (st' := [.long 0, .long a1]) (pc' := 2) hk (.lconst 0) 1 rfl rfl rfl ?_
  refine ev_op (st' := [.int (lg_cmp a1 0)]) (pc' := 3) hk (.lcmp) 1 rfl rfl rfl ?_
  refine ev_d1 30 6 hk rfl rfl rfl rfl (px_leq hx (fun hc hx => ?_) (fun hc hx => ?_))
  · refine ev_op (st' := [.int 0]) (pc' := 31) hk (.iconst 0) 1 rfl rfl rfl ?_
    cases hx
    obtain rfl := hM
    exact ev_retZ false rfl hk rfl rfl
  · refine ev_ls (L' := [some (.ref 247), some (.long a1), none]) (st' := [.ref 247]) (pc' := 7) hk (.aload_n 0) 1 rfl rfl rfl rfl ?_
    refine ev_ls (L' := [some (.ref 247), some (.long a1), none]) (st' := [.long a1, .ref 247]) (pc' := 8) hk (.lload_n 1) 1 rfl rfl rfl rfl ?_
    obtain ⟨v1, hc2, hx⟩ := bnd_some hx
    refine ev_cv 167 1 [.int v1] 11 hk rfl rfl rfl rfl lk_model rfl rfl rfl (rM_spotNamed hc2) rfl rfl rfl rfl ?_
    refine ev_op (st' := [.int (-1), .int v1]) (pc' := 12) hk (.iconst (-1)) 1 rfl rfl rfl ?_
    refine ev_d2 30 15 hk rfl rfl rfl rfl (px_cne hx (fun hc hx => ?_) (fun hc hx => ?_))
    · refine ev_op (st' := [.int 0]) (pc' := 31) hk (.iconst 0) 1 rfl rfl rfl ?_
      cases hx
      obtain rfl := hM
      exact ev_retZ false rfl hk rfl rfl
    · refine ev_ls (L' := [some (.ref 247), some (.long a1), none]) (st' := [.ref 247]) (pc' := 16) hk (.aload_n 0) 1 rfl rfl rfl rfl ?_
      refine ev_gf (.ref 249) 19 hk rfl rfl lk_model rfl rfl ?_
      refine ev_op (st' := [.int 1, .ref 249]) (pc' := 20) hk (.iconst 1) 1 rfl rfl rfl ?_
      refine ev_ial (v := ((mA M 249) 1)) rfl 21 hk rfl lk_m249 rfl ?_
      refine ev_op (st' := [.int 10, .int ((mA M 249) 1)]) (pc' := 23) hk (.bipush 10) 2 rfl rfl rfl ?_
      refine ev_d2 30 26 hk rfl rfl rfl rfl (px_cge hx (fun hc hx => ?_) (fun hc hx => ?_))
      · refine ev_op (st' := [.int 0]) (pc' := 31) hk (.iconst 0) 1 rfl rfl rfl ?_
        cases hx
        obtain rfl := hM
        exact ev_retZ false rfl hk rfl rfl
      · refine ev_op (st' := [.int 1]) (pc' := 27) hk (.iconst 1) 1 rfl rfl rfl ?_
        refine ev_jp (pc' := 31) (st' := [.int 1]) hk (.goto 4) 3 rfl rfl rfl rfl rfl ?_
        cases hx
        obtain rfl := hM
        exact ev_retZ true rfl hk rfl rfl
def qM_addsSpot_18 (S : Nat) (xs : Nat → Int32) (I : zI) (C : zC) (Y : Nat → Int32) (Γ : Nat → zG) (D : zD) (O : Nat → Int32) (ou : Nat → Int64) (od : Nat → UInt64) (j : Nat) (a1 : Int64) (a3 : Int32) (a4 : Int32) (a5 : Int32) (a6 : Int32) (a7 : Int32) (y : (Option Value ⊕ String) × px_H) (s : zM × Int32) : Prop := Ev S xs 22 18 [some (.ref 247), some (.long a1), none, some (.int a3), some (.int a4), some (.int a5), some (.int a6), some (.int a7), some (.int s.2)] [] (zH I C Y Γ D O s.1 ou od j) y
set_option maxRecDepth 4000 in
theorem rM_addsSpot_b18 {S : Nat} {xs : Nat → Int32} {I : zI} {C : zC} {Y : Nat → Int32} {Γ : Nat → zG} {D : zD} {O : Nat → Int32} {ou : Nat → Int64} {od : Nat → UInt64} {j : Nat} {a1 : Int64} {a3 : Int32} {a4 : Int32} {a5 : Int32} {a6 : Int32} {a7 : Int32} {y : (Option Value ⊕ String) × px_H} {s : zM × Int32} {x : (zM × Int32) ⊕ (Int32 × zM)}  (hx : fM_addsSpot_b18 a1 a3 a4 a5 a6 a7 s.1 s.2 = some x) (hM : (Sum.elim (qM_addsSpot_18 S xs I C Y Γ D O ou od j a1 a3 a4 a5 a6 a7 y) (fun X : Int32 × zM => y = (((.inl (some (.int X.1))), (zH I C Y Γ D O X.2 ou od j)) : (Option Value ⊕ String) × px_H))) x) : qM_addsSpot_18 S xs I C Y Γ D O ou od j a1 a3 a4 a5 a6 a7 y s := by
  obtain ⟨M, a8⟩ := s
  have hk : pt_mt[22]? = some pt_r22 := rfl
  unfold fM_addsSpot_b18 at hx
  try dsimp only at hx
  refine ev_ls (L' := [some (.ref 247), some (.long a1), none, some (.int a3), some (.int a4), some (.int a5), some (.int a6), some (.int a7), some (.int a8)]) (st' := [.int a8]) (pc' := 20) hk (.iload 8) 2 rfl rfl rfl rfl ?_
  refine ev_op (st' := [.int 9, .int a8]) (pc' := 22) hk (.bipush 9) 2 rfl rfl rfl ?_
  refine ev_d2 42 25 hk rfl rfl rfl rfl (px_cge hx (fun hc hx => ?_) (fun hc hx => ?_))
  · refine ev_ls (L' := [some (.ref 247), some (.long a1), none, some (.int a3), some (.int a4), some (.int a5), some (.int a6), some (.int a7), some (.int a8)]) (st' := [.ref 247]) (pc' := 43) hk (.aload_n 0) 1 rfl rfl rfl rfl ?_
    refine ev_gf (.ref 249) 46 hk rfl rfl lk_model rfl rfl ?_
    refine ev_ls (L' := [some (.ref 247), some (.long a1), none, some (.int a3), some (.int a4), some (.int a5), some (.int a6), some (.int a7), some (.int a8)]) (st' := [.int a7, .ref 249]) (pc' := 48) hk (.iload 7) 2 rfl rfl rfl rfl ?_
    refine ev_op (st' := [.int 0, .int a7, .ref 249]) (pc' := 49) hk (.iconst 0) 1 rfl rfl rfl ?_
    refine ev_op (st' := [.int (a7 + 0), .ref 249]) (pc' := 50) hk (.iadd) 1 rfl rfl rfl ?_
    refine ev_ls (L' := [some (.ref 247), some (.long a1), none, some (.int a3), some (.int a4), some (.int a5), some (.int a6), some (.int a7), some (.int a8)]) (st' := [.long a1, .int (a7 + 0), .ref 249]) (pc' := 51) hk (.lload_n 1) 1 rfl rfl rfl rfl ?_
    refine ev_op (st' := [.int 20, .long a1, .int (a7 + 0), .ref 249]) (pc' := 53) hk (.bipush 20) 2 rfl rfl rfl ?_
    refine ev_op (st' := [.long (a1 >>> (Int32.toInt64 20 &&& 63)), .int (a7 + 0), .ref 249]) (pc' := 54) hk (.lshr) 1 rfl rfl rfl ?_
    refine ev_op (st' := [.int (Int64.toInt32 (a1 >>> (Int32.toInt64 20 &&& 63))), .int (a7 + 0), .ref 249]) (pc' := 55) hk (.l2i) 1 rfl rfl rfl ?_
    obtain ⟨A31, hA31, hx⟩ := bnd_some hx
    obtain ⟨M32, hM32, hx⟩ := bnd_some hx
    have hM32 := Option.some.inj hM32
    refine ev_ias hA31 56 hk rfl lk_m249 (sa_m249 hM32) rfl ?_
    refine ev_ls (L' := [some (.ref 247), some (.long a1), none, some (.int a3), some (.int a4), some (.int a5), some (.int a6), some (.int a7), some (.int a8)]) (st' := [.ref 247]) (pc' := 57) hk (.aload_n 0) 1 rfl rfl rfl rfl ?_
    refine ev_gf (.ref 249) 60 hk rfl rfl lk_model rfl rfl ?_
    refine ev_ls (L' := [some (.ref 247), some (.long a1), none, some (.int a3), some (.int a4), some (.int a5), some (.int a6), some (.int a7), some (.int a8)]) (st' := [.int a7, .ref 249]) (pc' := 62) hk (.iload 7) 2 rfl rfl rfl rfl ?_
    refine ev_op (st' := [.int 1, .int a7, .ref 249]) (pc' := 63) hk (.iconst 1) 1 rfl rfl rfl ?_
    refine ev_op (st' := [.int (a7 + 1), .ref 249]) (pc' := 64) hk (.iadd) 1 rfl rfl rfl ?_
    refine ev_ls (L' := [some (.ref 247), some (.long a1), none, some (.int a3), some (.int a4), some (.int a5), some (.int a6), some (.int a7), some (.int a8)]) (st' := [.long a1, .int (a7 + 1), .ref 249]) (pc' := 65) hk (.lload_n 1) 1 rfl rfl rfl rfl ?_
    refine ev_ldJ 1048575 68 hk rfl rfl rfl ?_
    refine ev_op (st' := [.long (a1 &&& 1048575), .int (a7 + 1), .ref 249]) (pc' := 69) hk (.land) 1 rfl rfl rfl ?_
    refine ev_op (st' := [.int (Int64.toInt32 (a1 &&& 1048575)), .int (a7 + 1), .ref 249]) (pc' := 70) hk (.l2i) 1 rfl rfl rfl ?_
    obtain ⟨A33, hA33, hx⟩ := bnd_some hx
    obtain ⟨M34, hM34, hx⟩ := bnd_some hx
    have hM34 := Option.some.inj hM34
    refine ev_ias hA33 71 hk rfl lk_m249 (sa_m249 hM34) rfl ?_
    refine ev_ls (L' := [some (.ref 247), some (.long a1), none, some (.int a3), some (.int a4), some (.int a5), some (.int a6), some (.int a7), some (.int a8)]) (st' := [.ref 247]) (pc' := 72) hk (.aload_n 0) 1 rfl rfl rfl rfl ?_
    refine ev_gf (.ref 249) 75 hk rfl rfl lk_model rfl rfl ?_
    refine ev_ls (L' := [some (.ref 247), some (.long a1), none, some (.int a3), some (.int a4), some (.int a5), some (.int a6), some (.int a7), some (.int a8)]) (st' := [.int a7, .ref 249]) (pc' := 77) hk (.iload 7) 2 rfl rfl rfl rfl ?_
    refine ev_op (st' := [.int 2, .int a7, .ref 249]) (pc' := 78) hk (.iconst 2) 1 rfl rfl rfl ?_
    refine ev_op (st' := [.int (a7 + 2), .ref 249]) (pc' := 79) hk (.iadd) 1 rfl rfl rfl ?_
    refine ev_ls (L' := [some (.ref 247), some (.long a1), none, some (.int a3), some (.int a4), some (.int a5), some (.int a6), some (.int a7), some (.int a8)]) (st' := [.int a3, .int (a7 + 2), .ref 249]) (pc' := 80) hk (.iload_n 3) 1 rfl rfl rfl rfl ?_
    obtain ⟨A35, hA35, hx⟩ := bnd_some hx
    obtain ⟨M36, hM36, hx⟩ := bnd_some hx
    have hM36 := Option.some.inj hM36
    refine ev_ias hA35 81 hk rfl lk_m249 (sa_m249 hM36) rfl ?_
    refine ev_ls (L' := [some (.ref 247), some (.long a1), none, some (.int a3), some (.int a4), some (.int a5), some (.int a6), some (.int a7), some (.int a8)]) (st' := [.ref 247]) (pc' := 82) hk (.aload_n 0) 1 rfl rfl rfl rfl ?_
    refine ev_gf (.ref 249) 85 hk rfl rfl lk_model rfl rfl ?_
    refine ev_ls (L' := [some (.ref 247), some (.long a1), none, some (.int a3), some (.int a4), some (.int a5), some (.int a6), some (.int a7), some (.int a8)]) (st' := [.int a7, .ref 249]) (pc' := 87) hk (.iload 7) 2 rfl rfl rfl rfl ?_
    refine ev_op (st' := [.int 3, .int a7, .ref 249]) (pc' := 88) hk (.iconst 3) 1 rfl rfl rfl ?_
    refine ev_op (st' := [.int (a7 + 3), .ref 249]) (pc' := 89) hk (.iadd) 1 rfl rfl rfl ?_
    refine ev_ls (L' := [some (.ref 247), some (.long a1), none, some (.int a3), some (.int a4), some (.int a5), some (.int a6), some (.int a7), some (.int a8)]) (st' := [.int a4, .int (a7 + 3), .ref 249]) (pc' := 91) hk (.iload 4) 2 rfl rfl rfl rfl ?_
    obtain ⟨A37, hA37, hx⟩ := bnd_some hx
    obtain ⟨M38, hM38, hx⟩ := bnd_some hx
    have hM38 := Option.some.inj hM38
    refine ev_ias hA37 92 hk rfl lk_m249 (sa_m249 hM38) rfl ?_
    refine ev_ls (L' := [some (.ref 247), some (.long a1), none, some (.int a3), some (.int a4), some (.int a5), some (.int a6), some (.int a7), some (.int a8)]) (st' := [.ref 247]) (pc' := 93) hk (.aload_n 0) 1 rfl rfl rfl rfl ?_
    refine ev_gf (.ref 249) 96 hk rfl rfl lk_model rfl rfl ?_
    refine ev_ls (L' := [some (.ref 247), some (.long a1), none, some (.int a3), some (.int a4), some (.int a5), some (.int a6), some (.int a7), some (.int a8)]) (st' := [.int a7, .ref 249]) (pc' := 98) hk (.iload 7) 2 rfl rfl rfl rfl ?_
    refine ev_op (st' := [.int 4, .int a7, .ref 249]) (pc' := 99) hk (.iconst 4) 1 rfl rfl rfl ?_
    refine ev_op (st' := [.int (a7 + 4), .ref 249]) (pc' := 100) hk (.iadd) 1 rfl rfl rfl ?_
    refine ev_ls (L' := [some (.ref 247), some (.long a1), none, some (.int a3), some (.int a4), some (.int a5), some (.int a6), some (.int a7), some (.int a8)]) (st' := [.int a5, .int (a7 + 4), .ref 249]) (pc' := 102) hk (.iload 5) 2 rfl rfl rfl rfl ?_
    obtain ⟨A39, hA39, hx⟩ := bnd_some hx
    obtain ⟨M40, hM40, hx⟩ := bnd_some hx
    have hM40 := Option.some.inj hM40
    refine ev_ias hA39 103 hk rfl lk_m249 (sa_m249 hM40) rfl ?_
    refine ev_ls (L' := [some (.ref 247), some (.long a1), none, some (.int a3), some (.int a4), some (.int a5), some (.int a6), some (.int a7), some (.int a8)]) (st' := [.ref 247]) (pc' := 104) hk (.aload_n 0) 1 rfl rfl rfl rfl ?_
    refine ev_gf (.ref 249) 107 hk rfl rfl lk_model rfl rfl ?_
    refine ev_ls (L' := [some (.ref 247), some (.long a1), none, some (.int a3), some (.int a4), some (.int a5), some (.int a6), some (.int a7), some (.int a8)]) (st' := [.int a7, .ref 249]) (pc' := 109) hk (.iload 7) 2 rfl rfl rfl rfl ?_
    refine ev_op (st' := [.int 5, .int a7, .ref 249]) (pc' := 110) hk (.iconst 5) 1 rfl rfl rfl ?_
    refine ev_op (st' := [.int (a7 + 5), .ref 249]) (pc' := 111) hk (.iadd) 1 rfl rfl rfl ?_
    refine ev_ls (L' := [some (.ref 247), some (.long a1), none, some (.int a3), some (.int a4), some (.int a5), some (.int a6), some (.int a7), some (.int a8)]) (st' := [.ref 247, .int (a7 + 5), .ref 249]) (pc' := 112) hk (.aload_n 0) 1 rfl rfl rfl rfl ?_
    refine ev_ls (L' := [some (.ref 247), some (.long a1), none, some (.int a3), some (.int a4), some (.int a5), some (.int a6), some (.int a7), some (.int a8)]) (st' := [.int a4, .ref 247, .int (a7 + 5), .ref 249]) (pc' := 114) hk (.iload 4) 2 rfl rfl rfl rfl ?_
    refine ev_ls (L' := [some (.ref 247), some (.long a1), none, some (.int a3), some (.int a4), some (.int a5), some (.int a6), some (.int a7), some (.int a8)]) (st' := [.int a5, .int a4, .ref 247, .int (a7 + 5), .ref 249]) (pc' := 116) hk (.iload 5) 2 rfl rfl rfl rfl ?_
    obtain ⟨v41, hc42, hx⟩ := bnd_some hx
    refine ev_cv 122 2 [.int v41, .int (a7 + 5), .ref 249] 119 hk rfl rfl rfl rfl lk_model rfl rfl rfl (rM_localDay hc42) rfl rfl rfl rfl ?_
    obtain ⟨A43, hA43, hx⟩ := bnd_some hx
    obtain ⟨M44, hM44, hx⟩ := bnd_some hx
    have hM44 := Option.some.inj hM44
    refine ev_ias hA43 120 hk rfl lk_m249 (sa_m249 hM44) rfl ?_
    refine ev_ls (L' := [some (.ref 247), some (.long a1), none, some (.int a3), some (.int a4), some (.int a5), some (.int a6), some (.int a7), some (.int a8)]) (st' := [.ref 247]) (pc' := 121) hk (.aload_n 0) 1 rfl rfl rfl rfl ?_
    refine ev_gf (.ref 249) 124 hk rfl rfl lk_model rfl rfl ?_
    refine ev_op (st' := [.int 1, .ref 249]) (pc' := 125) hk (.iconst 1) 1 rfl rfl rfl ?_
    refine ev_op (st' := [.int 1, .ref 249, .int 1, .ref 249]) (pc' := 126) hk (.dup2) 1 rfl rfl rfl ?_
    refine ev_ial (v := ((mA M44 249) 1)) rfl 127 hk rfl lk_m249 rfl ?_
    refine ev_op (st' := [.int 1, .int ((mA M44 249) 1), .int 1, .ref 249]) (pc' := 128) hk (.iconst 1) 1 rfl rfl rfl ?_
    refine ev_op (st' := [.int (((mA M44 249) 1) + 1), .int 1, .ref 249]) (pc' := 129) hk (.iadd) 1 rfl rfl rfl ?_
    obtain ⟨M45, hM45, hx⟩ := bnd_some hx
    have hM45 := Option.some.inj hM45
    refine ev_ias (A := (upd (mA M44 249) 1 (((mA M44 249) 1) + 1))) rfl 130 hk rfl lk_m249 (sa_m249 hM45) rfl ?_
    refine ev_ls (L' := [some (.ref 247), some (.long a1), none, some (.int a3), some (.int a4), some (.int a5), some (.int a6), some (.int a7), some (.int a8)]) (st' := [.int a6]) (pc' := 132) hk (.iload 6) 2 rfl rfl rfl rfl ?_
    cases hx
    obtain rfl := hM
    exact ev_retI hk rfl rfl
  · refine ev_ls (L' := [some (.ref 247), some (.long a1), none, some (.int a3), some (.int a4), some (.int a5), some (.int a6), some (.int a7), some (.int a8)]) (st' := [.ref 247]) (pc' := 26) hk (.aload_n 0) 1 rfl rfl rfl rfl ?_
    refine ev_gf (.ref 249) 29 hk rfl rfl lk_model rfl rfl ?_
    refine ev_ls (L' := [some (.ref 247), some (.long a1), none, some (.int a3), some (.int a4), some (.int a5), some (.int a6), some (.int a7), some (.int a8)]) (st' := [.int a7, .ref 249]) (pc' := 31) hk (.iload 7) 2 rfl rfl rfl rfl ?_
    refine ev_ls (L' := [some (.ref 247), some (.long a1), none, some (.int a3), some (.int a4), some (.int a5), some (.int a6), some (.int a7), some (.int a8)]) (st' := [.int a8, .int a7, .ref 249]) (pc' := 33) hk (.iload 8) 2 rfl rfl rfl rfl ?_
    refine ev_op (st' := [.int (a7 + a8), .ref 249]) (pc' := 34) hk (.iadd) 1 rfl rfl rfl ?_
    refine ev_op (st' := [.int 0, .int (a7 + a8), .ref 249]) (pc' := 35) hk (.iconst 0) 1 rfl rfl rfl ?_
    obtain ⟨A46, hA46, hx⟩ := bnd_some hx
    obtain ⟨M47, hM47, hx⟩ := bnd_some hx
    have hM47 := Option.some.inj hM47
    refine ev_ias hA46 36 hk rfl lk_m249 (sa_m249 hM47) rfl ?_
    refine ev_ls (L' := [some (.ref 247), some (.long a1), none, some (.int a3), some (.int a4), some (.int a5), some (.int a6), some (.int a7), some (.int (a8 + 1))]) (st' := []) (pc' := 39) hk (.iinc 8 1) 3 rfl rfl rfl rfl ?_
    refine ev_jp (pc' := 18) (st' := []) hk (.goto (-21)) 3 rfl rfl rfl rfl rfl ?_
    cases hx
    exact hM

/-! THE ROWS of the methods: each function is what the pure machine does (2) -/
set_option maxRecDepth 4000 in
theorem rM_steps_j141 {S : Nat} {xs : Nat → Int32} {I : zI} {C : zC} {Y : Nat → Int32} {Γ : Nat → zG} {D : zD} {O : Nat → Int32} {M : zM} {ou : Nat → Int64} {od : Nat → UInt64} {j : Nat} {a1 : Int32} {a8 : Bool} {a0t : Bool} {a1t : Int32} {a2t : Int32} {y : (Option Value ⊕ String) × px_H} {x : Int32 × zM}  (hx : fM_steps_j141 M a1 a8 a0t a1t a2t = some x) (hM : (fun X : Int32 × zM => y = (((.inl (some (.int X.1))), (zH I C Y Γ D O X.2 ou od j)) : (Option Value ⊕ String) × px_H)) x) (u2 : Option Value) (hu2 : px_cz u2 = true) (u3 : Option Value) (hu3 : px_cz u3 = true) (u4 : Option Value) (hu4 : px_cz u4 = true) (u5 : Option Value) (hu5 : px_cz u5 = true) (u6 : Option Value) (hu6 : px_cz u6 = true) (u7 : Option Value) (hu7 : px_cz u7 = true) : Ev S xs 174 141 [some (.ref 247), some (.int a1), u2, u3, u4, u5, u6, u7, some (.int (b2i a8))] [.int (b2i a0t), .int a1t, .int a2t, .ref 249] (zH I C Y Γ D O M ou od j) y := by
  have hk : pt_mt[174]? = some pt_r174 := rfl
  unfold fM_steps_j141 at hx
  refine ev_cs 189 1 [.int (fM_truth a0t), .int a1t, .int a2t, .ref 249] 144 hk rfl rfl (by decide) rfl rfl rfl (rM_truth rfl) rfl rfl rfl rfl ?_
  refine ev_ls (L' := [some (.ref 247), some (.int a1), u2, u3, u4, u5, u6, u7, some (.int (b2i a8))]) (st' := [.int (b2i a8), .int (fM_truth a0t), .int a1t, .int a2t, .ref 249]) (pc' := 146) hk (.iload 8) 2 rfl rfl rfl rfl ?_
  refine ev_cs 189 1 [.int (fM_truth a8), .int (fM_truth a0t), .int a1t, .int a2t, .ref 249] 149 hk rfl rfl (by decide) rfl rfl rfl (rM_truth rfl) rfl rfl rfl rfl ?_
  refine ev_op (st' := [.int ((fM_truth a0t) - (fM_truth a8)), .int a1t, .int a2t, .ref 249]) (pc' := 150) hk (.isub) 1 rfl rfl rfl ?_
  refine ev_op (st' := [.int (a1t + ((fM_truth a0t) - (fM_truth a8))), .int a2t, .ref 249]) (pc' := 151) hk (.iadd) 1 rfl rfl rfl ?_
  obtain ⟨A35, hA35, hx⟩ := bnd_some hx
  obtain ⟨M36, hM36, hx⟩ := bnd_some hx
  have hM36 := Option.some.inj hM36
  refine ev_ias hA35 152 hk rfl lk_m249 (sa_m249 hM36) rfl ?_
  refine ev_jp (pc' := 192) (st' := []) hk (.goto 40) 3 rfl rfl rfl rfl rfl ?_
  exact rM_steps_j192 hx hM u2 hu2 u3 hu3 u4 hu4 u5 hu5 u6 hu6 u7 hu7 (some (.int (b2i a8))) rfl
set_option maxRecDepth 4000 in
theorem rM_steps_j140 {S : Nat} {xs : Nat → Int32} {I : zI} {C : zC} {Y : Nat → Int32} {Γ : Nat → zG} {D : zD} {O : Nat → Int32} {M : zM} {ou : Nat → Int64} {od : Nat → UInt64} {j : Nat} {a1 : Int32} {a8 : Bool} {a0t : Int32} {a1t : Int32} {y : (Option Value ⊕ String) × px_H} {x : Int32 × zM}  (hx : fM_steps_j140 M a1 a8 a0t a1t = some x) (hM : (fun X : Int32 × zM => y = (((.inl (some (.int X.1))), (zH I C Y Γ D O X.2 ou od j)) : (Option Value ⊕ String) × px_H)) x) (u2 : Option Value) (hu2 : px_cz u2 = true) (u3 : Option Value) (hu3 : px_cz u3 = true) (u4 : Option Value) (hu4 : px_cz u4 = true) (u5 : Option Value) (hu5 : px_cz u5 = true) (u6 : Option Value) (hu6 : px_cz u6 = true) (u7 : Option Value) (hu7 : px_cz u7 = true) : Ev S xs 174 140 [some (.ref 247), some (.int a1), u2, u3, u4, u5, u6, u7, some (.int (b2i a8))] [.int a0t, .int a1t, .ref 249] (zH I C Y Γ D O M ou od j) y := by
  have hk : pt_mt[174]? = some pt_r174 := rfl
  unfold fM_steps_j140 at hx
  refine ev_op (st' := [.int 0, .int a0t, .int a1t, .ref 249]) (pc' := 141) hk (.iconst 0) 1 rfl rfl rfl ?_
  exact rM_steps_j141 hx hM u2 hu2 u3 hu3 u4 hu4 u5 hu5 u6 hu6 u7 hu7
set_option maxRecDepth 4000 in
theorem rM_steps_j186 {S : Nat} {xs : Nat → Int32} {I : zI} {C : zC} {Y : Nat → Int32} {Γ : Nat → zG} {D : zD} {O : Nat → Int32} {M : zM} {ou : Nat → Int64} {od : Nat → UInt64} {j : Nat} {a1 : Int32} {a0t : Bool} {a1t : Int32} {a2t : Int32} {a3t : Int32} {y : (Option Value ⊕ String) × px_H} {x : Int32 × zM}  (hx : fM_steps_j186 M a1 a0t a1t a2t a3t = some x) (hM : (fun X : Int32 × zM => y = (((.inl (some (.int X.1))), (zH I C Y Γ D O X.2 ou od j)) : (Option Value ⊕ String) × px_H)) x) (u2 : Option Value) (hu2 : px_cz u2 = true) (u3 : Option Value) (hu3 : px_cz u3 = true) (u4 : Option Value) (hu4 : px_cz u4 = true) (u5 : Option Value) (hu5 : px_cz u5 = true) (u6 : Option Value) (hu6 : px_cz u6 = true) (u7 : Option Value) (hu7 : px_cz u7 = true) (u8 : Option Value) (hu8 : px_cz u8 = true) : Ev S xs 174 186 [some (.ref 247), some (.int a1), u2, u3, u4, u5, u6, u7, u8] [.int (b2i a0t), .int a1t, .int a2t, .int a3t, .ref 249] (zH I C Y Γ D O M ou od j) y := by
  have hk : pt_mt[174]? = some pt_r174 := rfl
  unfold fM_steps_j186 at hx
  refine ev_cs 189 1 [.int (fM_truth a0t), .int a1t, .int a2t, .int a3t, .ref 249] 189 hk rfl rfl (by decide) rfl rfl rfl (rM_truth rfl) rfl rfl rfl rfl ?_
  refine ev_op (st' := [.int (a1t - (fM_truth a0t)), .int a2t, .int a3t, .ref 249]) (pc' := 190) hk (.isub) 1 rfl rfl rfl ?_
  refine ev_op (st' := [.int (a2t + (a1t - (fM_truth a0t))), .int a3t, .ref 249]) (pc' := 191) hk (.iadd) 1 rfl rfl rfl ?_
  obtain ⟨A37, hA37, hx⟩ := bnd_some hx
  obtain ⟨M38, hM38, hx⟩ := bnd_some hx
  have hM38 := Option.some.inj hM38
  refine ev_ias hA37 192 hk rfl lk_m249 (sa_m249 hM38) rfl ?_
  exact rM_steps_j192 hx hM u2 hu2 u3 hu3 u4 hu4 u5 hu5 u6 hu6 u7 hu7 u8 hu8
set_option maxRecDepth 4000 in
theorem rM_steps_j185 {S : Nat} {xs : Nat → Int32} {I : zI} {C : zC} {Y : Nat → Int32} {Γ : Nat → zG} {D : zD} {O : Nat → Int32} {M : zM} {ou : Nat → Int64} {od : Nat → UInt64} {j : Nat} {a1 : Int32} {a0t : Int32} {a1t : Int32} {a2t : Int32} {y : (Option Value ⊕ String) × px_H} {x : Int32 × zM}  (hx : fM_steps_j185 M a1 a0t a1t a2t = some x) (hM : (fun X : Int32 × zM => y = (((.inl (some (.int X.1))), (zH I C Y Γ D O X.2 ou od j)) : (Option Value ⊕ String) × px_H)) x) (u2 : Option Value) (hu2 : px_cz u2 = true) (u3 : Option Value) (hu3 : px_cz u3 = true) (u4 : Option Value) (hu4 : px_cz u4 = true) (u5 : Option Value) (hu5 : px_cz u5 = true) (u6 : Option Value) (hu6 : px_cz u6 = true) (u7 : Option Value) (hu7 : px_cz u7 = true) (u8 : Option Value) (hu8 : px_cz u8 = true) : Ev S xs 174 185 [some (.ref 247), some (.int a1), u2, u3, u4, u5, u6, u7, u8] [.int a0t, .int a1t, .int a2t, .ref 249] (zH I C Y Γ D O M ou od j) y := by
  have hk : pt_mt[174]? = some pt_r174 := rfl
  unfold fM_steps_j185 at hx
  refine ev_op (st' := [.int 0, .int a0t, .int a1t, .int a2t, .ref 249]) (pc' := 186) hk (.iconst 0) 1 rfl rfl rfl ?_
  exact rM_steps_j186 hx hM u2 hu2 u3 hu3 u4 hu4 u5 hu5 u6 hu6 u7 hu7 u8 hu8
set_option maxRecDepth 4000 in
theorem rM_steps_j92 {S : Nat} {xs : Nat → Int32} {I : zI} {C : zC} {Y : Nat → Int32} {Γ : Nat → zG} {D : zD} {O : Nat → Int32} {M : zM} {ou : Nat → Int64} {od : Nat → UInt64} {j : Nat} {a1 : Int32} {a2 : Int32} {a3 : Int32} {a6 : Int32} {a7 : Int32} {a0t : Bool} {y : (Option Value ⊕ String) × px_H} {x : Int32 × zM}  (hx : fM_steps_j92 M a1 a2 a3 a6 a7 a0t = some x) (hM : (fun X : Int32 × zM => y = (((.inl (some (.int X.1))), (zH I C Y Γ D O X.2 ou od j)) : (Option Value ⊕ String) × px_H)) x) (u4 : Option Value) (hu4 : px_cz u4 = true) (u5 : Option Value) (hu5 : px_cz u5 = true) : Ev S xs 174 92 [some (.ref 247), some (.int a1), some (.int a2), some (.int a3), u4, u5, some (.int a6), some (.int a7), none] [.int (b2i a0t)] (zH I C Y Γ D O M ou od j) y := by
  have hk : pt_mt[174]? = some pt_r174 := rfl
  unfold fM_steps_j92 at hx
  refine ev_ls (L' := [some (.ref 247), some (.int a1), some (.int a2), some (.int a3), u4, u5, some (.int a6), some (.int a7), some (.int (b2i a0t))]) (st' := []) (pc' := 94) hk (.istore 8) 2 rfl rfl rfl rfl ?_
  refine ev_ls (L' := [some (.ref 247), some (.int a1), some (.int a2), some (.int a3), u4, u5, some (.int a6), some (.int a7), some (.int (b2i a0t))]) (st' := [.ref 247]) (pc' := 95) hk (.aload_n 0) 1 rfl rfl rfl rfl ?_
  refine ev_gf (.ref 249) 98 hk rfl rfl lk_model rfl rfl ?_
  refine ev_ls (L' := [some (.ref 247), some (.int a1), some (.int a2), some (.int a3), u4, u5, some (.int a6), some (.int a7), some (.int (b2i a0t))]) (st' := [.int a3, .ref 249]) (pc' := 99) hk (.iload_n 3) 1 rfl rfl rfl rfl ?_
  refine ev_op (st' := [.int 8, .int a3, .ref 249]) (pc' := 101) hk (.bipush 8) 2 rfl rfl rfl ?_
  refine ev_op (st' := [.int (a3 + 8), .ref 249]) (pc' := 102) hk (.iadd) 1 rfl rfl rfl ?_
  refine ev_op (st' := [.int (a3 + 8), .ref 249, .int (a3 + 8), .ref 249]) (pc' := 103) hk (.dup2) 1 rfl rfl rfl ?_
  obtain ⟨v30, hv30, hx⟩ := bnd_some hx
  refine ev_ial hv30 104 hk rfl lk_m249 rfl ?_
  refine ev_ls (L' := [some (.ref 247), some (.int a1), some (.int a2), some (.int a3), u4, u5, some (.int a6), some (.int a7), some (.int (b2i a0t))]) (st' := [.int (b2i a0t), .int v30, .int (a3 + 8), .ref 249]) (pc' := 106) hk (.iload 8) 2 rfl rfl rfl rfl ?_
  refine ev_cs 189 1 [.int (fM_truth a0t), .int v30, .int (a3 + 8), .ref 249] 109 hk rfl rfl (by decide) rfl rfl rfl (rM_truth rfl) rfl rfl rfl rfl ?_
  refine ev_op (st' := [.int (v30 + (fM_truth a0t)), .int (a3 + 8), .ref 249]) (pc' := 110) hk (.iadd) 1 rfl rfl rfl ?_
  obtain ⟨A31, hA31, hx⟩ := bnd_some hx
  obtain ⟨M32, hM32, hx⟩ := bnd_some hx
  have hM32 := Option.some.inj hM32
  refine ev_ias hA31 111 hk rfl lk_m249 (sa_m249 hM32) rfl ?_
  refine ev_ls (L' := [some (.ref 247), some (.int a1), some (.int a2), some (.int a3), u4, u5, some (.int a6), some (.int a7), some (.int (b2i a0t))]) (st' := [.int a2]) (pc' := 112) hk (.iload_n 2) 1 rfl rfl rfl rfl ?_
  refine ev_d1 155 115 hk rfl rfl rfl rfl (px_cne hx (fun hc hx => ?_) (fun hc hx => ?_))
  · refine ev_ls (L' := [some (.ref 247), some (.int a1), some (.int a2), some (.int a3), u4, u5, some (.int a6), some (.int a7), some (.int (b2i a0t))]) (st' := [.ref 247]) (pc' := 156) hk (.aload_n 0) 1 rfl rfl rfl rfl ?_
    refine ev_gf (.ref 249) 159 hk rfl rfl lk_model rfl rfl ?_
    refine ev_ls (L' := [some (.ref 247), some (.int a1), some (.int a2), some (.int a3), u4, u5, some (.int a6), some (.int a7), some (.int (b2i a0t))]) (st' := [.int a3, .ref 249]) (pc' := 160) hk (.iload_n 3) 1 rfl rfl rfl rfl ?_
    refine ev_op (st' := [.int 5, .int a3, .ref 249]) (pc' := 161) hk (.iconst 5) 1 rfl rfl rfl ?_
    refine ev_op (st' := [.int (a3 + 5), .ref 249]) (pc' := 162) hk (.iadd) 1 rfl rfl rfl ?_
    refine ev_op (st' := [.int (a3 + 5), .ref 249, .int (a3 + 5), .ref 249]) (pc' := 163) hk (.dup2) 1 rfl rfl rfl ?_
    obtain ⟨v33, hv33, hx⟩ := bnd_some hx
    refine ev_ial hv33 164 hk rfl lk_m249 rfl ?_
    refine ev_ls (L' := [some (.ref 247), some (.int a1), some (.int a2), some (.int a3), u4, u5, some (.int a6), some (.int a7), some (.int (b2i a0t))]) (st' := [.int (b2i a0t), .int v33, .int (a3 + 5), .ref 249]) (pc' := 166) hk (.iload 8) 2 rfl rfl rfl rfl ?_
    refine ev_cs 189 1 [.int (fM_truth a0t), .int v33, .int (a3 + 5), .ref 249] 169 hk rfl rfl (by decide) rfl rfl rfl (rM_truth rfl) rfl rfl rfl rfl ?_
    refine ev_ls (L' := [some (.ref 247), some (.int a1), some (.int a2), some (.int a3), u4, u5, some (.int a6), some (.int a7), some (.int (b2i a0t))]) (st' := [.int a6, .int (fM_truth a0t), .int v33, .int (a3 + 5), .ref 249]) (pc' := 171) hk (.iload 6) 2 rfl rfl rfl rfl ?_
    refine ev_d1 185 174 hk rfl rfl rfl rfl (px_cne hx (fun hc hx => ?_) (fun hc hx => ?_))
    · exact rM_steps_j185 hx hM (some (.int a2)) rfl (some (.int a3)) rfl u4 hu4 u5 hu5 (some (.int a6)) rfl (some (.int a7)) rfl (some (.int (b2i a0t))) rfl
    · refine ev_ls (L' := [some (.ref 247), some (.int a1), some (.int a2), some (.int a3), u4, u5, some (.int a6), some (.int a7), some (.int (b2i a0t))]) (st' := [.int a7, .int (fM_truth a0t), .int v33, .int (a3 + 5), .ref 249]) (pc' := 176) hk (.iload 7) 2 rfl rfl rfl rfl ?_
      refine ev_op (st' := [.int 23, .int a7, .int (fM_truth a0t), .int v33, .int (a3 + 5), .ref 249]) (pc' := 178) hk (.bipush 23) 2 rfl rfl rfl ?_
      refine ev_d2 185 181 hk rfl rfl rfl rfl (px_cne hx (fun hc hx => ?_) (fun hc hx => ?_))
      · exact rM_steps_j185 hx hM (some (.int a2)) rfl (some (.int a3)) rfl u4 hu4 u5 hu5 (some (.int a6)) rfl (some (.int a7)) rfl (some (.int (b2i a0t))) rfl
      · refine ev_op (st' := [.int 1, .int (fM_truth a0t), .int v33, .int (a3 + 5), .ref 249]) (pc' := 182) hk (.iconst 1) 1 rfl rfl rfl ?_
        refine ev_jp (pc' := 186) (st' := [.int 1, .int (fM_truth a0t), .int v33, .int (a3 + 5), .ref 249]) hk (.goto 4) 3 rfl rfl rfl rfl rfl ?_
        exact rM_steps_j186 hx hM (some (.int a2)) rfl (some (.int a3)) rfl u4 hu4 u5 hu5 (some (.int a6)) rfl (some (.int a7)) rfl (some (.int (b2i a0t))) rfl
  · refine ev_ls (L' := [some (.ref 247), some (.int a1), some (.int a2), some (.int a3), u4, u5, some (.int a6), some (.int a7), some (.int (b2i a0t))]) (st' := [.ref 247]) (pc' := 116) hk (.aload_n 0) 1 rfl rfl rfl rfl ?_
    refine ev_gf (.ref 249) 119 hk rfl rfl lk_model rfl rfl ?_
    refine ev_ls (L' := [some (.ref 247), some (.int a1), some (.int a2), some (.int a3), u4, u5, some (.int a6), some (.int a7), some (.int (b2i a0t))]) (st' := [.int a3, .ref 249]) (pc' := 120) hk (.iload_n 3) 1 rfl rfl rfl rfl ?_
    refine ev_op (st' := [.int 5, .int a3, .ref 249]) (pc' := 121) hk (.iconst 5) 1 rfl rfl rfl ?_
    refine ev_op (st' := [.int (a3 + 5), .ref 249]) (pc' := 122) hk (.iadd) 1 rfl rfl rfl ?_
    refine ev_op (st' := [.int (a3 + 5), .ref 249, .int (a3 + 5), .ref 249]) (pc' := 123) hk (.dup2) 1 rfl rfl rfl ?_
    obtain ⟨v34, hv34, hx⟩ := bnd_some hx
    refine ev_ial hv34 124 hk rfl lk_m249 rfl ?_
    refine ev_ls (L' := [some (.ref 247), some (.int a1), some (.int a2), some (.int a3), u4, u5, some (.int a6), some (.int a7), some (.int (b2i a0t))]) (st' := [.int a6, .int v34, .int (a3 + 5), .ref 249]) (pc' := 126) hk (.iload 6) 2 rfl rfl rfl rfl ?_
    refine ev_op (st' := [.int 23, .int a6, .int v34, .int (a3 + 5), .ref 249]) (pc' := 128) hk (.bipush 23) 2 rfl rfl rfl ?_
    refine ev_d2 140 131 hk rfl rfl rfl rfl (px_cne hx (fun hc hx => ?_) (fun hc hx => ?_))
    · exact rM_steps_j140 hx hM (some (.int a2)) rfl (some (.int a3)) rfl u4 hu4 u5 hu5 (some (.int a6)) rfl (some (.int a7)) rfl
    · refine ev_ls (L' := [some (.ref 247), some (.int a1), some (.int a2), some (.int a3), u4, u5, some (.int a6), some (.int a7), some (.int (b2i a0t))]) (st' := [.int a7, .int v34, .int (a3 + 5), .ref 249]) (pc' := 133) hk (.iload 7) 2 rfl rfl rfl rfl ?_
      refine ev_d1 140 136 hk rfl rfl rfl rfl (px_cne hx (fun hc hx => ?_) (fun hc hx => ?_))
      · exact rM_steps_j140 hx hM (some (.int a2)) rfl (some (.int a3)) rfl u4 hu4 u5 hu5 (some (.int a6)) rfl (some (.int a7)) rfl
      · refine ev_op (st' := [.int 1, .int v34, .int (a3 + 5), .ref 249]) (pc' := 137) hk (.iconst 1) 1 rfl rfl rfl ?_
        refine ev_jp (pc' := 141) (st' := [.int 1, .int v34, .int (a3 + 5), .ref 249]) hk (.goto 4) 3 rfl rfl rfl rfl rfl ?_
        exact rM_steps_j141 hx hM (some (.int a2)) rfl (some (.int a3)) rfl u4 hu4 u5 hu5 (some (.int a6)) rfl (some (.int a7)) rfl
set_option maxRecDepth 4000 in
theorem rM_steps_j84 {S : Nat} {xs : Nat → Int32} {I : zI} {C : zC} {Y : Nat → Int32} {Γ : Nat → zG} {D : zD} {O : Nat → Int32} {M : zM} {ou : Nat → Int64} {od : Nat → UInt64} {j : Nat} {a1 : Int32} {a2 : Int32} {a3 : Int32} {a6 : Int32} {a7 : Int32} {a0t : Int32} {a1t : Int32} {y : (Option Value ⊕ String) × px_H} {x : Int32 × zM}  (hx : fM_steps_j84 M a1 a2 a3 a6 a7 a0t a1t = some x) (hM : (fun X : Int32 × zM => y = (((.inl (some (.int X.1))), (zH I C Y Γ D O X.2 ou od j)) : (Option Value ⊕ String) × px_H)) x) (u4 : Option Value) (hu4 : px_cz u4 = true) (u5 : Option Value) (hu5 : px_cz u5 = true) : Ev S xs 174 84 [some (.ref 247), some (.int a1), some (.int a2), some (.int a3), u4, u5, some (.int a6), some (.int a7), none] [.int a0t, .int a1t] (zH I C Y Γ D O M ou od j) y := by
  have hk : pt_mt[174]? = some pt_r174 := rfl
  unfold fM_steps_j84 at hx
  refine ev_d2 91 87 hk rfl rfl rfl rfl (px_cne hx (fun hc hx => ?_) (fun hc hx => ?_))
  · refine ev_op (st' := [.int 0]) (pc' := 92) hk (.iconst 0) 1 rfl rfl rfl ?_
    exact rM_steps_j92 hx hM u4 hu4 u5 hu5
  · refine ev_op (st' := [.int 1]) (pc' := 88) hk (.iconst 1) 1 rfl rfl rfl ?_
    refine ev_jp (pc' := 92) (st' := [.int 1]) hk (.goto 4) 3 rfl rfl rfl rfl rfl ?_
    exact rM_steps_j92 hx hM u4 hu4 u5 hu5
set_option maxRecDepth 4000 in
theorem rM_steps_j59 {S : Nat} {xs : Nat → Int32} {I : zI} {C : zC} {Y : Nat → Int32} {Γ : Nat → zG} {D : zD} {O : Nat → Int32} {M : zM} {ou : Nat → Int64} {od : Nat → UInt64} {j : Nat} {a1 : Int32} {a2 : Int32} {a3 : Int32} {a4 : Int32} {a5 : Int32} {a6 : Int32} {a0t : Int32} {a1t : Int32} {y : (Option Value ⊕ String) × px_H} {x : Int32 × zM}  (hx : fM_steps_j59 M a1 a2 a3 a4 a5 a6 a0t a1t = some x) (hM : (fun X : Int32 × zM => y = (((.inl (some (.int X.1))), (zH I C Y Γ D O X.2 ou od j)) : (Option Value ⊕ String) × px_H)) x)  : Ev S xs 174 59 [some (.ref 247), some (.int a1), some (.int a2), some (.int a3), some (.int a4), some (.int a5), some (.int a6), none, none] [.int a0t, .int a1t, .ref 249] (zH I C Y Γ D O M ou od j) y := by
  have hk : pt_mt[174]? = some pt_r174 := rfl
  unfold fM_steps_j59 at hx
  obtain ⟨A24, hA24, hx⟩ := bnd_some hx
  obtain ⟨M25, hM25, hx⟩ := bnd_some hx
  have hM25 := Option.some.inj hM25
  refine ev_ias hA24 60 hk rfl lk_m249 (sa_m249 hM25) rfl ?_
  refine ev_ls (L' := [some (.ref 247), some (.int a1), some (.int a2), some (.int a3), some (.int a4), some (.int a5), some (.int a6), none, none]) (st' := [.ref 247]) (pc' := 61) hk (.aload_n 0) 1 rfl rfl rfl rfl ?_
  refine ev_ls (L' := [some (.ref 247), some (.int a1), some (.int a2), some (.int a3), some (.int a4), some (.int a5), some (.int a6), none, none]) (st' := [.int a1, .ref 247]) (pc' := 62) hk (.iload_n 1) 1 rfl rfl rfl rfl ?_
  obtain ⟨v26, hc27, hx⟩ := bnd_some hx
  refine ev_cv 74 1 [.int v26] 65 hk rfl rfl rfl rfl lk_model rfl rfl rfl (rM_hourNow hc27) rfl rfl rfl rfl ?_
  refine ev_ls (L' := [some (.ref 247), some (.int a1), some (.int a2), some (.int a3), some (.int a4), some (.int a5), some (.int a6), some (.int v26), none]) (st' := []) (pc' := 67) hk (.istore 7) 2 rfl rfl rfl rfl ?_
  refine ev_ls (L' := [some (.ref 247), some (.int a1), some (.int a2), some (.int a3), some (.int a4), some (.int a5), some (.int a6), some (.int v26), none]) (st' := [.int a4]) (pc' := 69) hk (.iload 4) 2 rfl rfl rfl rfl ?_
  refine ev_ls (L' := [some (.ref 247), some (.int a1), some (.int a2), some (.int a3), some (.int a4), some (.int a5), some (.int a6), some (.int v26), none]) (st' := [.int a2, .int a4]) (pc' := 70) hk (.iload_n 2) 1 rfl rfl rfl rfl ?_
  refine ev_d1 82 73 hk rfl rfl rfl rfl (px_cne hx (fun hc hx => ?_) (fun hc hx => ?_))
  · refine ev_ls (L' := [some (.ref 247), some (.int a1), some (.int a2), some (.int a3), some (.int a4), some (.int a5), some (.int a6), some (.int v26), none]) (st' := [.int a5, .int a4]) (pc' := 84) hk (.iload 5) 2 rfl rfl rfl rfl ?_
    exact rM_steps_j84 hx hM (some (.int a4)) rfl (some (.int a5)) rfl
  · refine ev_ls (L' := [some (.ref 247), some (.int a1), some (.int a2), some (.int a3), some (.int a4), some (.int a5), some (.int a6), some (.int v26), none]) (st' := [.ref 247, .int a4]) (pc' := 74) hk (.aload_n 0) 1 rfl rfl rfl rfl ?_
    refine ev_ls (L' := [some (.ref 247), some (.int a1), some (.int a2), some (.int a3), some (.int a4), some (.int a5), some (.int a6), some (.int v26), none]) (st' := [.int a1, .ref 247, .int a4]) (pc' := 75) hk (.iload_n 1) 1 rfl rfl rfl rfl ?_
    refine ev_op (st' := [.int 4, .int a1, .ref 247, .int a4]) (pc' := 76) hk (.iconst 4) 1 rfl rfl rfl ?_
    obtain ⟨v28, hc29, hx⟩ := bnd_some hx
    refine ev_cv 145 2 [.int v28, .int a4] 79 hk rfl rfl rfl rfl lk_model rfl rfl rfl (rM_of hc29) rfl rfl rfl rfl ?_
    refine ev_jp (pc' := 84) (st' := [.int v28, .int a4]) hk (.goto 5) 3 rfl rfl rfl rfl rfl ?_
    exact rM_steps_j84 hx hM (some (.int a4)) rfl (some (.int a5)) rfl
set_option maxRecDepth 2000 in
theorem rM_steps {S : Nat} {xs : Nat → Int32} {I : zI} {C : zC} {Y : Nat → Int32} {Γ : Nat → zG} {D : zD} {O : Nat → Int32} {M : zM} {ou : Nat → Int64} {od : Nat → UInt64} {j : Nat} {a1 : Int32} {a2 : Int32} {X : Int32 × zM}   (hx : fM_steps M a1 a2 = some X) : Ev S xs 174 0 [some (.ref 247), some (.int a1), some (.int a2), none, none, none, none, none, none] [] (zH I C Y Γ D O M ou od j) (((.inl (some (.int X.1))), (zH I C Y Γ D O X.2 ou od j)) : (Option Value ⊕ String) × px_H) := by
  generalize hM : (((.inl (some (.int X.1))), (zH I C Y Γ D O X.2 ou od j)) : (Option Value ⊕ String) × px_H) = y
  replace hM := hM.symm
  have hk : pt_mt[174]? = some pt_r174 := rfl
  unfold fM_steps at hx
  refine ev_ls (L' := [some (.ref 247), some (.int a1), some (.int a2), none, none, none, none, none, none]) (st' := [.int a1]) (pc' := 1) hk (.iload_n 1) 1 rfl rfl rfl rfl ?_
  refine ev_cs 168 1 [.int (fM_spt a1)] 4 hk rfl rfl (by decide) rfl rfl rfl (rM_spt rfl) rfl rfl rfl rfl ?_
  refine ev_ls (L' := [some (.ref 247), some (.int a1), some (.int a2), some (.int (fM_spt a1)), none, none, none, none, none]) (st' := []) (pc' := 5) hk (.istore_n 3) 1 rfl rfl rfl rfl ?_
  refine ev_ls (L' := [some (.ref 247), some (.int a1), some (.int a2), some (.int (fM_spt a1)), none, none, none, none, none]) (st' := [.ref 247]) (pc' := 6) hk (.aload_n 0) 1 rfl rfl rfl rfl ?_
  refine ev_gf (.ref 249) 9 hk rfl rfl lk_model rfl rfl ?_
  refine ev_op (st' := [.int 5, .ref 249]) (pc' := 10) hk (.iconst 5) 1 rfl rfl rfl ?_
  refine ev_ls (L' := [some (.ref 247), some (.int a1), some (.int a2), some (.int (fM_spt a1)), none, none, none, none, none]) (st' := [.ref 247, .int 5, .ref 249]) (pc' := 11) hk (.aload_n 0) 1 rfl rfl rfl rfl ?_
  refine ev_ls (L' := [some (.ref 247), some (.int a1), some (.int a2), some (.int (fM_spt a1)), none, none, none, none, none]) (st' := [.int a1, .ref 247, .int 5, .ref 249]) (pc' := 12) hk (.iload_n 1) 1 rfl rfl rfl rfl ?_
  refine ev_op (st' := [.int 3, .int a1, .ref 247, .int 5, .ref 249]) (pc' := 13) hk (.iconst 3) 1 rfl rfl rfl ?_
  obtain ⟨v41, hc42, hx⟩ := bnd_some hx
  refine ev_cv 145 2 [.int v41, .int 5, .ref 249] 16 hk rfl rfl rfl rfl lk_model rfl rfl rfl (rM_of hc42) rfl rfl rfl rfl ?_
  refine ev_op (st' := [.int (5 + v41), .ref 249]) (pc' := 17) hk (.iadd) 1 rfl rfl rfl ?_
  obtain ⟨v43, hv43, hx⟩ := bnd_some hx
  refine ev_ial hv43 18 hk rfl lk_m249 rfl ?_
  refine ev_ls (L' := [some (.ref 247), some (.int a1), some (.int a2), some (.int (fM_spt a1)), some (.int v43), none, none, none, none]) (st' := []) (pc' := 20) hk (.istore 4) 2 rfl rfl rfl rfl ?_
  refine ev_ls (L' := [some (.ref 247), some (.int a1), some (.int a2), some (.int (fM_spt a1)), some (.int v43), none, none, none, none]) (st' := [.ref 247]) (pc' := 21) hk (.aload_n 0) 1 rfl rfl rfl rfl ?_
  refine ev_ls (L' := [some (.ref 247), some (.int a1), some (.int a2), some (.int (fM_spt a1)), some (.int v43), none, none, none, none]) (st' := [.int a1, .ref 247]) (pc' := 22) hk (.iload_n 1) 1 rfl rfl rfl rfl ?_
  refine ev_op (st' := [.int 4, .int a1, .ref 247]) (pc' := 23) hk (.iconst 4) 1 rfl rfl rfl ?_
  obtain ⟨v44, hc45, hx⟩ := bnd_some hx
  refine ev_cv 145 2 [.int v44] 26 hk rfl rfl rfl rfl lk_model rfl rfl rfl (rM_of hc45) rfl rfl rfl rfl ?_
  refine ev_ls (L' := [some (.ref 247), some (.int a1), some (.int a2), some (.int (fM_spt a1)), some (.int v43), some (.int v44), none, none, none]) (st' := []) (pc' := 28) hk (.istore 5) 2 rfl rfl rfl rfl ?_
  refine ev_ls (L' := [some (.ref 247), some (.int a1), some (.int a2), some (.int (fM_spt a1)), some (.int v43), some (.int v44), none, none, none]) (st' := [.ref 247]) (pc' := 29) hk (.aload_n 0) 1 rfl rfl rfl rfl ?_
  refine ev_ls (L' := [some (.ref 247), some (.int a1), some (.int a2), some (.int (fM_spt a1)), some (.int v43), some (.int v44), none, none, none]) (st' := [.int a1, .ref 247]) (pc' := 30) hk (.iload_n 1) 1 rfl rfl rfl rfl ?_
  obtain ⟨v46, hc47, hx⟩ := bnd_some hx
  refine ev_cv 74 1 [.int v46] 33 hk rfl rfl rfl rfl lk_model rfl rfl rfl (rM_hourNow hc47) rfl rfl rfl rfl ?_
  refine ev_ls (L' := [some (.ref 247), some (.int a1), some (.int a2), some (.int (fM_spt a1)), some (.int v43), some (.int v44), some (.int v46), none, none]) (st' := []) (pc' := 35) hk (.istore 6) 2 rfl rfl rfl rfl ?_
  refine ev_ls (L' := [some (.ref 247), some (.int a1), some (.int a2), some (.int (fM_spt a1)), some (.int v43), some (.int v44), some (.int v46), none, none]) (st' := [.ref 247]) (pc' := 36) hk (.aload_n 0) 1 rfl rfl rfl rfl ?_
  refine ev_gf (.ref 249) 39 hk rfl rfl lk_model rfl rfl ?_
  refine ev_ls (L' := [some (.ref 247), some (.int a1), some (.int a2), some (.int (fM_spt a1)), some (.int v43), some (.int v44), some (.int v46), none, none]) (st' := [.int (fM_spt a1), .ref 249]) (pc' := 40) hk (.iload_n 3) 1 rfl rfl rfl rfl ?_
  refine ev_op (st' := [.int 4, .int (fM_spt a1), .ref 249]) (pc' := 41) hk (.iconst 4) 1 rfl rfl rfl ?_
  refine ev_op (st' := [.int ((fM_spt a1) + 4), .ref 249]) (pc' := 42) hk (.iadd) 1 rfl rfl rfl ?_
  refine ev_ls (L' := [some (.ref 247), some (.int a1), some (.int a2), some (.int (fM_spt a1)), some (.int v43), some (.int v44), some (.int v46), none, none]) (st' := [.int a2, .int ((fM_spt a1) + 4), .ref 249]) (pc' := 43) hk (.iload_n 2) 1 rfl rfl rfl rfl ?_
  refine ev_d1 54 46 hk rfl rfl rfl rfl (px_cne hx (fun hc hx => ?_) (fun hc hx => ?_))
  · refine ev_ls (L' := [some (.ref 247), some (.int a1), some (.int a2), some (.int (fM_spt a1)), some (.int v43), some (.int v44), some (.int v46), none, none]) (st' := [.int v44, .int ((fM_spt a1) + 4), .ref 249]) (pc' := 56) hk (.iload 5) 2 rfl rfl rfl rfl ?_
    refine ev_cs 197 1 [.int (fM_west v44), .int ((fM_spt a1) + 4), .ref 249] 59 hk rfl rfl (by decide) rfl rfl rfl (rM_west rfl) rfl rfl rfl rfl ?_
    exact rM_steps_j59 hx hM 
  · refine ev_ls (L' := [some (.ref 247), some (.int a1), some (.int a2), some (.int (fM_spt a1)), some (.int v43), some (.int v44), some (.int v46), none, none]) (st' := [.int v44, .int ((fM_spt a1) + 4), .ref 249]) (pc' := 48) hk (.iload 5) 2 rfl rfl rfl rfl ?_
    refine ev_cs 49 1 [.int (fM_east v44), .int ((fM_spt a1) + 4), .ref 249] 51 hk rfl rfl (by decide) rfl rfl rfl (rM_east rfl) rfl rfl rfl rfl ?_
    refine ev_jp (pc' := 59) (st' := [.int (fM_east v44), .int ((fM_spt a1) + 4), .ref 249]) hk (.goto 8) 3 rfl rfl rfl rfl rfl ?_
    exact rM_steps_j59 hx hM 
def qM_walksOn_2 (S : Nat) (xs : Nat → Int32) (I : zI) (C : zC) (Y : Nat → Int32) (Γ : Nat → zG) (D : zD) (O : Nat → Int32) (ou : Nat → Int64) (od : Nat → UInt64) (j : Nat) (a1 : Int32) (y : (Option Value ⊕ String) × px_H) (s : zM × Int32) : Prop := ∀ (u3 : Option Value) (hu3 : px_cz u3 = true), Ev S xs 195 2 [some (.ref 247), some (.int a1), some (.int s.2), u3] [] (zH I C Y Γ D O s.1 ou od j) y
set_option maxRecDepth 4000 in
theorem rM_walksOn_b2 {S : Nat} {xs : Nat → Int32} {I : zI} {C : zC} {Y : Nat → Int32} {Γ : Nat → zG} {D : zD} {O : Nat → Int32} {ou : Nat → Int64} {od : Nat → UInt64} {j : Nat} {a1 : Int32} {y : (Option Value ⊕ String) × px_H} {s : zM × Int32} {x : (zM × Int32) ⊕ (zM)}  (hx : fM_walksOn_b2 a1 s.1 s.2 = some x) (hM : (Sum.elim (qM_walksOn_2 S xs I C Y Γ D O ou od j a1 y) (fun X : zM => y = (((.inl none), (zH I C Y Γ D O X ou od j)) : (Option Value ⊕ String) × px_H))) x) : qM_walksOn_2 S xs I C Y Γ D O ou od j a1 y s := by
  obtain ⟨M, a2⟩ := s
  intro u3 hu3
  have hk : pt_mt[195]? = some pt_r195 := rfl
  unfold fM_walksOn_b2 at hx
  try dsimp only at hx
  refine ev_ls (L' := [some (.ref 247), some (.int a1), some (.int a2), u3]) (st' := [.int a2]) (pc' := 3) hk (.iload_n 2) 1 rfl rfl rfl rfl ?_
  refine ev_op (st' := [.int 10, .int a2]) (pc' := 5) hk (.bipush 10) 2 rfl rfl rfl ?_
  refine ev_d2 83 8 hk rfl rfl rfl rfl (px_cge hx (fun hc hx => ?_) (fun hc hx => ?_))
  · cases hx
    obtain rfl := hM
    exact ev_retv hk rfl rfl
  · refine ev_ls (L' := [some (.ref 247), some (.int a1), some (.int a2), u3]) (st' := [.ref 247]) (pc' := 9) hk (.aload_n 0) 1 rfl rfl rfl rfl ?_
    refine ev_ls (L' := [some (.ref 247), some (.int a1), some (.int a2), u3]) (st' := [.int a1, .ref 247]) (pc' := 10) hk (.iload_n 1) 1 rfl rfl rfl rfl ?_
    refine ev_op (st' := [.int 7, .int a1, .ref 247]) (pc' := 12) hk (.bipush 7) 2 rfl rfl rfl ?_
    obtain ⟨v13, hc14, hx⟩ := bnd_some hx
    refine ev_cv 145 2 [.int v13] 15 hk rfl rfl rfl rfl lk_model rfl rfl rfl (rM_of hc14) rfl rfl rfl rfl ?_
    refine ev_d1 83 18 hk rfl rfl rfl rfl (px_cle hx (fun hc hx => ?_) (fun hc hx => ?_))
    · cases hx
      obtain rfl := hM
      exact ev_retv hk rfl rfl
    · refine ev_ls (L' := [some (.ref 247), some (.int a1), some (.int a2), u3]) (st' := [.ref 247]) (pc' := 19) hk (.aload_n 0) 1 rfl rfl rfl rfl ?_
      refine ev_ls (L' := [some (.ref 247), some (.int a1), some (.int a2), u3]) (st' := [.int a1, .ref 247]) (pc' := 20) hk (.iload_n 1) 1 rfl rfl rfl rfl ?_
      refine ev_op (st' := [.int 6, .int a1, .ref 247]) (pc' := 22) hk (.bipush 6) 2 rfl rfl rfl ?_
      obtain ⟨v15, hc16, hx⟩ := bnd_some hx
      refine ev_cv 145 2 [.int v15] 25 hk rfl rfl rfl rfl lk_model rfl rfl rfl (rM_of hc16) rfl rfl rfl rfl ?_
      refine ev_ls (L' := [some (.ref 247), some (.int a1), some (.int a2), some (.int v15)]) (st' := []) (pc' := 26) hk (.istore_n 3) 1 rfl rfl rfl rfl ?_
      refine ev_ls (L' := [some (.ref 247), some (.int a1), some (.int a2), some (.int v15)]) (st' := [.ref 247]) (pc' := 27) hk (.aload_n 0) 1 rfl rfl rfl rfl ?_
      refine ev_ls (L' := [some (.ref 247), some (.int a1), some (.int a2), some (.int v15)]) (st' := [.int a1, .ref 247]) (pc' := 28) hk (.iload_n 1) 1 rfl rfl rfl rfl ?_
      refine ev_ls (L' := [some (.ref 247), some (.int a1), some (.int a2), some (.int v15)]) (st' := [.int v15, .int a1, .ref 247]) (pc' := 29) hk (.iload_n 3) 1 rfl rfl rfl rfl ?_
      obtain ⟨v17, hc18, hx⟩ := bnd_some hx
      refine ev_cv 173 2 [.int v17] 32 hk rfl rfl rfl rfl lk_model rfl rfl rfl (rM_stepWhy hc18) rfl rfl rfl rfl ?_
      refine ev_d1 51 35 hk rfl rfl rfl rfl (px_ceq hx (fun hc hx => ?_) (fun hc hx => ?_))
      · refine ev_ls (L' := [some (.ref 247), some (.int a1), some (.int a2), some (.int v15)]) (st' := [.ref 247]) (pc' := 52) hk (.aload_n 0) 1 rfl rfl rfl rfl ?_
        refine ev_ls (L' := [some (.ref 247), some (.int a1), some (.int a2), some (.int v15)]) (st' := [.ref 247, .ref 247]) (pc' := 53) hk (.aload_n 0) 1 rfl rfl rfl rfl ?_
        refine ev_ls (L' := [some (.ref 247), some (.int a1), some (.int a2), some (.int v15)]) (st' := [.int a1, .ref 247, .ref 247]) (pc' := 54) hk (.iload_n 1) 1 rfl rfl rfl rfl ?_
        refine ev_ls (L' := [some (.ref 247), some (.int a1), some (.int a2), some (.int v15)]) (st' := [.int v15, .int a1, .ref 247, .ref 247]) (pc' := 55) hk (.iload_n 3) 1 rfl rfl rfl rfl ?_
        obtain ⟨v20, M19, hc21, hx⟩ := bnd2_some hx
        refine ev_cv 174 2 [.int v20, .ref 247] 58 hk rfl rfl rfl rfl lk_model rfl rfl rfl (rM_steps hc21) rfl rfl rfl rfl ?_
        obtain ⟨M22, hM22, hx⟩ := bnd_some hx
        have hM22 := Option.some.inj hM22
        refine ev_pf 61 hk rfl rfl lk_model rfl rfl rfl (sf_8_29 hM22) rfl ?_
        refine ev_ls (L' := [some (.ref 247), some (.int a1), some (.int a2), some (.int v15)]) (st' := [.ref 247]) (pc' := 62) hk (.aload_n 0) 1 rfl rfl rfl rfl ?_
        refine ev_gf (.ref 249) 65 hk rfl rfl lk_model rfl rfl ?_
        refine ev_ls (L' := [some (.ref 247), some (.int a1), some (.int a2), some (.int v15)]) (st' := [.int a1, .ref 249]) (pc' := 66) hk (.iload_n 1) 1 rfl rfl rfl rfl ?_
        refine ev_cs 168 1 [.int (fM_spt a1), .ref 249] 69 hk rfl rfl (by decide) rfl rfl rfl (rM_spt rfl) rfl rfl rfl rfl ?_
        refine ev_op (st' := [.int 7, .int (fM_spt a1), .ref 249]) (pc' := 71) hk (.bipush 7) 2 rfl rfl rfl ?_
        refine ev_op (st' := [.int ((fM_spt a1) + 7), .ref 249]) (pc' := 72) hk (.iadd) 1 rfl rfl rfl ?_
        refine ev_op (st' := [.int ((fM_spt a1) + 7), .ref 249, .int ((fM_spt a1) + 7), .ref 249]) (pc' := 73) hk (.dup2) 1 rfl rfl rfl ?_
        obtain ⟨v23, hv23, hx⟩ := bnd_some hx
        refine ev_ial hv23 74 hk rfl lk_m249 rfl ?_
        refine ev_op (st' := [.int 1, .int v23, .int ((fM_spt a1) + 7), .ref 249]) (pc' := 75) hk (.iconst 1) 1 rfl rfl rfl ?_
        refine ev_op (st' := [.int (v23 - 1), .int ((fM_spt a1) + 7), .ref 249]) (pc' := 76) hk (.isub) 1 rfl rfl rfl ?_
        obtain ⟨A24, hA24, hx⟩ := bnd_some hx
        obtain ⟨M25, hM25, hx⟩ := bnd_some hx
        have hM25 := Option.some.inj hM25
        refine ev_ias hA24 77 hk rfl lk_m249 (sa_m249 hM25) rfl ?_
        refine ev_ls (L' := [some (.ref 247), some (.int a1), some (.int (a2 + 1)), some (.int v15)]) (st' := []) (pc' := 80) hk (.iinc 2 1) 3 rfl rfl rfl rfl ?_
        refine ev_jp (pc' := 2) (st' := []) hk (.goto (-78)) 3 rfl rfl rfl rfl rfl ?_
        cases hx
        exact hM (some (.int v15)) rfl
      · refine ev_ls (L' := [some (.ref 247), some (.int a1), some (.int a2), some (.int v15)]) (st' := [.ref 247]) (pc' := 36) hk (.aload_n 0) 1 rfl rfl rfl rfl ?_
        refine ev_gf (.ref 249) 39 hk rfl rfl lk_model rfl rfl ?_
        refine ev_ls (L' := [some (.ref 247), some (.int a1), some (.int a2), some (.int v15)]) (st' := [.int a1, .ref 249]) (pc' := 40) hk (.iload_n 1) 1 rfl rfl rfl rfl ?_
        refine ev_cs 168 1 [.int (fM_spt a1), .ref 249] 43 hk rfl rfl (by decide) rfl rfl rfl (rM_spt rfl) rfl rfl rfl rfl ?_
        refine ev_op (st' := [.int 7, .int (fM_spt a1), .ref 249]) (pc' := 45) hk (.bipush 7) 2 rfl rfl rfl ?_
        refine ev_op (st' := [.int ((fM_spt a1) + 7), .ref 249]) (pc' := 46) hk (.iadd) 1 rfl rfl rfl ?_
        refine ev_op (st' := [.int 0, .int ((fM_spt a1) + 7), .ref 249]) (pc' := 47) hk (.iconst 0) 1 rfl rfl rfl ?_
        obtain ⟨A26, hA26, hx⟩ := bnd_some hx
        obtain ⟨M27, hM27, hx⟩ := bnd_some hx
        have hM27 := Option.some.inj hM27
        refine ev_ias hA26 48 hk rfl lk_m249 (sa_m249 hM27) rfl ?_
        refine ev_jp (pc' := 77) (st' := []) hk (.goto 29) 3 rfl rfl rfl rfl rfl ?_
        refine ev_ls (L' := [some (.ref 247), some (.int a1), some (.int (a2 + 1)), some (.int v15)]) (st' := []) (pc' := 80) hk (.iinc 2 1) 3 rfl rfl rfl rfl ?_
        refine ev_jp (pc' := 2) (st' := []) hk (.goto (-78)) 3 rfl rfl rfl rfl rfl ?_
        cases hx
        exact hM (some (.int v15)) rfl
set_option maxRecDepth 2000 in
theorem rM_walksOn {S : Nat} {xs : Nat → Int32} {I : zI} {C : zC} {Y : Nat → Int32} {Γ : Nat → zG} {D : zD} {O : Nat → Int32} {M : zM} {ou : Nat → Int64} {od : Nat → UInt64} {j : Nat} {a1 : Int32} {X : zM}   (hx : fM_walksOn M a1 = some X) : Ev S xs 195 0 [some (.ref 247), some (.int a1), none, none] [] (zH I C Y Γ D O M ou od j) (((.inl none), (zH I C Y Γ D O X ou od j)) : (Option Value ⊕ String) × px_H) := by
  generalize hM : (((.inl none), (zH I C Y Γ D O X ou od j)) : (Option Value ⊕ String) × px_H) = y
  replace hM := hM.symm
  have hk : pt_mt[195]? = some pt_r195 := rfl
  unfold fM_walksOn at hx
  refine ev_op (st' := [.int 0]) (pc' := 1) hk (.iconst 0) 1 rfl rfl rfl ?_
  refine ev_ls (L' := [some (.ref 247), some (.int a1), some (.int 0), none]) (st' := []) (pc' := 2) hk (.istore_n 2) 1 rfl rfl rfl rfl ?_
  exact ev_iter (qM_walksOn_2 S xs I C Y Γ D O ou od j a1 _) (fun X : zM => y = (((.inl none), (zH I C Y Γ D O X ou od j)) : (Option Value ⊕ String) × px_H)) (fun s x hb hM => rM_walksOn_b2 hb hM) fu _ _ hx hM none rfl
set_option maxRecDepth 2000 in
theorem rM_strain {S : Nat} {xs : Nat → Int32} {I : zI} {C : zC} {Y : Nat → Int32} {Γ : Nat → zG} {D : zD} {O : Nat → Int32} {M : zM} {ou : Nat → Int64} {od : Nat → UInt64} {j : Nat} {a1 : Int32} {X : Int32}   (hx : fM_strain M a1 = some X) : Ev S xs 176 0 [some (.ref 247), some (.int a1), none, none] [] (zH I C Y Γ D O M ou od j) (((.inl (some (.int X))), (zH I C Y Γ D O M ou od j)) : (Option Value ⊕ String) × px_H) := by
  generalize hM : (((.inl (some (.int X))), (zH I C Y Γ D O M ou od j)) : (Option Value ⊕ String) × px_H) = y
  replace hM := hM.symm
  have hk : pt_mt[176]? = some pt_r176 := rfl
  unfold fM_strain at hx
  refine ev_ls (L' := [some (.ref 247), some (.int a1), none, none]) (st' := [.int a1]) (pc' := 1) hk (.iload_n 1) 1 rfl rfl rfl rfl ?_
  refine ev_ls (L' := [some (.ref 247), some (.int a1), none, none]) (st' := [.ref 247, .int a1]) (pc' := 2) hk (.aload_n 0) 1 rfl rfl rfl rfl ?_
  refine ev_gf (.ref 249) 5 hk rfl rfl lk_model rfl rfl ?_
  refine ev_op (st' := [.int 0, .ref 249, .int a1]) (pc' := 6) hk (.iconst 0) 1 rfl rfl rfl ?_
  refine ev_ial (v := ((mA M 249) 0)) rfl 7 hk rfl lk_m249 rfl ?_
  refine ev_op (st' := [.int (a1 + ((mA M 249) 0))]) (pc' := 8) hk (.iadd) 1 rfl rfl rfl ?_
  refine ev_op (st' := [.int 1, .int (a1 + ((mA M 249) 0))]) (pc' := 9) hk (.iconst 1) 1 rfl rfl rfl ?_
  refine ev_op (st' := [.int ((a1 + ((mA M 249) 0)) - 1)]) (pc' := 10) hk (.isub) 1 rfl rfl rfl ?_
  refine ev_ls (L' := [some (.ref 247), some (.int a1), none, none]) (st' := [.ref 247, .int ((a1 + ((mA M 249) 0)) - 1)]) (pc' := 11) hk (.aload_n 0) 1 rfl rfl rfl rfl ?_
  refine ev_gf (.ref 249) 14 hk rfl rfl lk_model rfl rfl ?_
  refine ev_op (st' := [.int 0, .ref 249, .int ((a1 + ((mA M 249) 0)) - 1)]) (pc' := 15) hk (.iconst 0) 1 rfl rfl rfl ?_
  refine ev_ial (v := ((mA M 249) 0)) rfl 16 hk rfl lk_m249 rfl ?_
  obtain ⟨v5, hv5, hx⟩ := bnd_some hx
  refine ev_rm 17 hk rfl hv5 rfl ?_
  refine ev_ls (L' := [some (.ref 247), some (.int a1), some (.int v5), none]) (st' := []) (pc' := 18) hk (.istore_n 2) 1 rfl rfl rfl rfl ?_
  refine ev_ls (L' := [some (.ref 247), some (.int a1), some (.int v5), none]) (st' := [.int a1]) (pc' := 19) hk (.iload_n 1) 1 rfl rfl rfl rfl ?_
  refine ev_op (st' := [.int 1, .int a1]) (pc' := 20) hk (.iconst 1) 1 rfl rfl rfl ?_
  refine ev_op (st' := [.int (a1 + 1)]) (pc' := 21) hk (.iadd) 1 rfl rfl rfl ?_
  refine ev_ls (L' := [some (.ref 247), some (.int a1), some (.int v5), none]) (st' := [.ref 247, .int (a1 + 1)]) (pc' := 22) hk (.aload_n 0) 1 rfl rfl rfl rfl ?_
  refine ev_gf (.ref 249) 25 hk rfl rfl lk_model rfl rfl ?_
  refine ev_op (st' := [.int 0, .ref 249, .int (a1 + 1)]) (pc' := 26) hk (.iconst 0) 1 rfl rfl rfl ?_
  refine ev_ial (v := ((mA M 249) 0)) rfl 27 hk rfl lk_m249 rfl ?_
  obtain ⟨v6, hv6, hx⟩ := bnd_some hx
  refine ev_rm 28 hk rfl hv6 rfl ?_
  refine ev_ls (L' := [some (.ref 247), some (.int a1), some (.int v5), some (.int v6)]) (st' := []) (pc' := 29) hk (.istore_n 3) 1 rfl rfl rfl rfl ?_
  refine ev_ls (L' := [some (.ref 247), some (.int a1), some (.int v5), some (.int v6)]) (st' := [.ref 247]) (pc' := 30) hk (.aload_n 0) 1 rfl rfl rfl rfl ?_
  refine ev_gf (.ref 249) 33 hk rfl rfl lk_model rfl rfl ?_
  refine ev_op (st' := [.int 14, .ref 249]) (pc' := 35) hk (.bipush 14) 2 rfl rfl rfl ?_
  refine ev_ls (L' := [some (.ref 247), some (.int a1), some (.int v5), some (.int v6)]) (st' := [.int a1, .int 14, .ref 249]) (pc' := 36) hk (.iload_n 1) 1 rfl rfl rfl rfl ?_
  refine ev_op (st' := [.int (14 + a1), .ref 249]) (pc' := 37) hk (.iadd) 1 rfl rfl rfl ?_
  obtain ⟨v7, hv7, hx⟩ := bnd_some hx
  refine ev_ial hv7 38 hk rfl lk_m249 rfl ?_
  refine ev_ls (L' := [some (.ref 247), some (.int a1), some (.int v5), some (.int v6)]) (st' := [.ref 247, .int v7]) (pc' := 39) hk (.aload_n 0) 1 rfl rfl rfl rfl ?_
  refine ev_gf (.ref 249) 42 hk rfl rfl lk_model rfl rfl ?_
  refine ev_op (st' := [.int 14, .ref 249, .int v7]) (pc' := 44) hk (.bipush 14) 2 rfl rfl rfl ?_
  refine ev_ls (L' := [some (.ref 247), some (.int a1), some (.int v5), some (.int v6)]) (st' := [.int v5, .int 14, .ref 249, .int v7]) (pc' := 45) hk (.iload_n 2) 1 rfl rfl rfl rfl ?_
  refine ev_op (st' := [.int (14 + v5), .ref 249, .int v7]) (pc' := 46) hk (.iadd) 1 rfl rfl rfl ?_
  obtain ⟨v8, hv8, hx⟩ := bnd_some hx
  refine ev_ial hv8 47 hk rfl lk_m249 rfl ?_
  refine ev_op (st' := [.int (v7 + v8)]) (pc' := 48) hk (.iadd) 1 rfl rfl rfl ?_
  refine ev_op (st' := [.int 60, .int (v7 + v8)]) (pc' := 50) hk (.bipush 60) 2 rfl rfl rfl ?_
  refine ev_div 51 hk rfl (by decide) rfl ?_
  refine ev_ls (L' := [some (.ref 247), some (.int a1), some (.int v5), some (.int v6)]) (st' := [.ref 247, .int ((v7 + v8) / 60)]) (pc' := 52) hk (.aload_n 0) 1 rfl rfl rfl rfl ?_
  refine ev_ls (L' := [some (.ref 247), some (.int a1), some (.int v5), some (.int v6)]) (st' := [.int v5, .ref 247, .int ((v7 + v8) / 60)]) (pc' := 53) hk (.iload_n 2) 1 rfl rfl rfl rfl ?_
  obtain ⟨v9, hc10, hx⟩ := bnd_some hx
  refine ev_cv 98 1 [.int (b2i v9), .int ((v7 + v8) / 60)] 56 hk rfl rfl rfl rfl lk_model rfl rfl rfl (rM_isTornSeam hc10) rfl rfl rfl rfl ?_
  refine ev_cs 189 1 [.int (fM_truth v9), .int ((v7 + v8) / 60)] 59 hk rfl rfl (by decide) rfl rfl rfl (rM_truth rfl) rfl rfl rfl rfl ?_
  refine ev_op (st' := [.int (((v7 + v8) / 60) + (fM_truth v9))]) (pc' := 60) hk (.iadd) 1 rfl rfl rfl ?_
  refine ev_ls (L' := [some (.ref 247), some (.int a1), some (.int v5), some (.int v6)]) (st' := [.ref 247, .int (((v7 + v8) / 60) + (fM_truth v9))]) (pc' := 61) hk (.aload_n 0) 1 rfl rfl rfl rfl ?_
  refine ev_ls (L' := [some (.ref 247), some (.int a1), some (.int v5), some (.int v6)]) (st' := [.int v6, .ref 247, .int (((v7 + v8) / 60) + (fM_truth v9))]) (pc' := 62) hk (.iload_n 3) 1 rfl rfl rfl rfl ?_
  obtain ⟨v11, hc12, hx⟩ := bnd_some hx
  refine ev_cv 98 1 [.int (b2i v11), .int (((v7 + v8) / 60) + (fM_truth v9))] 65 hk rfl rfl rfl rfl lk_model rfl rfl rfl (rM_isTornSeam hc12) rfl rfl rfl rfl ?_
  refine ev_cs 189 1 [.int (fM_truth v11), .int (((v7 + v8) / 60) + (fM_truth v9))] 68 hk rfl rfl (by decide) rfl rfl rfl (rM_truth rfl) rfl rfl rfl rfl ?_
  refine ev_op (st' := [.int ((((v7 + v8) / 60) + (fM_truth v9)) + (fM_truth v11))]) (pc' := 69) hk (.iadd) 1 rfl rfl rfl ?_
  cases hx
  obtain rfl := hM
  exact ev_retI hk rfl rfl
def qM_beginning_4 (S : Nat) (xs : Nat → Int32) (I : zI) (C : zC) (Y : Nat → Int32) (Γ : Nat → zG) (D : zD) (O : Nat → Int32) (M : zM) (ou : Nat → Int64) (od : Nat → UInt64) (j : Nat) (a1 : Int32) (y : (Option Value ⊕ String) × px_H) (s : Int32 × Int32) : Prop := Ev S xs 27 4 [some (.ref 247), some (.int a1), some (.int s.1), some (.int s.2)] [] (zH I C Y Γ D O M ou od j) y
set_option maxRecDepth 4000 in
theorem rM_beginning_b4 {S : Nat} {xs : Nat → Int32} {I : zI} {C : zC} {Y : Nat → Int32} {Γ : Nat → zG} {D : zD} {O : Nat → Int32} {M : zM} {ou : Nat → Int64} {od : Nat → UInt64} {j : Nat} {a1 : Int32} {y : (Option Value ⊕ String) × px_H} {s : Int32 × Int32} {x : (Int32 × Int32) ⊕ (Int32)}  (hx : fM_beginning_b4 M a1 s.1 s.2 = some x) (hM : (Sum.elim (qM_beginning_4 S xs I C Y Γ D O M ou od j a1 y) (fun X : Int32 => y = (((.inl (some (.int X))), (zH I C Y Γ D O M ou od j)) : (Option Value ⊕ String) × px_H))) x) : qM_beginning_4 S xs I C Y Γ D O M ou od j a1 y s := by
  obtain ⟨a2, a3⟩ := s
  have hk : pt_mt[27]? = some pt_r27 := rfl
  unfold fM_beginning_b4 at hx
  try dsimp only at hx
  refine ev_ls (L' := [some (.ref 247), some (.int a1), some (.int a2), some (.int a3)]) (st' := [.int a3]) (pc' := 5) hk (.iload_n 3) 1 rfl rfl rfl rfl ?_
  refine ev_ls (L' := [some (.ref 247), some (.int a1), some (.int a2), some (.int a3)]) (st' := [.int a1, .int a3]) (pc' := 6) hk (.iload_n 1) 1 rfl rfl rfl rfl ?_
  refine ev_d2 27 9 hk rfl rfl rfl rfl (px_cge hx (fun hc hx => ?_) (fun hc hx => ?_))
  · refine ev_ls (L' := [some (.ref 247), some (.int a1), some (.int a2), some (.int a3)]) (st' := [.int a2]) (pc' := 28) hk (.iload_n 2) 1 rfl rfl rfl rfl ?_
    cases hx
    obtain rfl := hM
    exact ev_retI hk rfl rfl
  · refine ev_ls (L' := [some (.ref 247), some (.int a1), some (.int a2), some (.int a3)]) (st' := [.int a2]) (pc' := 10) hk (.iload_n 2) 1 rfl rfl rfl rfl ?_
    refine ev_ls (L' := [some (.ref 247), some (.int a1), some (.int a2), some (.int a3)]) (st' := [.ref 247, .int a2]) (pc' := 11) hk (.aload_n 0) 1 rfl rfl rfl rfl ?_
    refine ev_gf (.ref 249) 14 hk rfl rfl lk_model rfl rfl ?_
    refine ev_op (st' := [.int 14, .ref 249, .int a2]) (pc' := 16) hk (.bipush 14) 2 rfl rfl rfl ?_
    refine ev_ls (L' := [some (.ref 247), some (.int a1), some (.int a2), some (.int a3)]) (st' := [.int a3, .int 14, .ref 249, .int a2]) (pc' := 17) hk (.iload_n 3) 1 rfl rfl rfl rfl ?_
    refine ev_op (st' := [.int (14 + a3), .ref 249, .int a2]) (pc' := 18) hk (.iadd) 1 rfl rfl rfl ?_
    obtain ⟨v3, hv3, hx⟩ := bnd_some hx
    refine ev_ial hv3 19 hk rfl lk_m249 rfl ?_
    refine ev_op (st' := [.int (a2 + v3)]) (pc' := 20) hk (.iadd) 1 rfl rfl rfl ?_
    refine ev_ls (L' := [some (.ref 247), some (.int a1), some (.int (a2 + v3)), some (.int a3)]) (st' := []) (pc' := 21) hk (.istore_n 2) 1 rfl rfl rfl rfl ?_
    refine ev_ls (L' := [some (.ref 247), some (.int a1), some (.int (a2 + v3)), some (.int (a3 + 1))]) (st' := []) (pc' := 24) hk (.iinc 3 1) 3 rfl rfl rfl rfl ?_
    refine ev_jp (pc' := 4) (st' := []) hk (.goto (-20)) 3 rfl rfl rfl rfl rfl ?_
    cases hx
    exact hM
set_option maxRecDepth 2000 in
theorem rM_beginning {S : Nat} {xs : Nat → Int32} {I : zI} {C : zC} {Y : Nat → Int32} {Γ : Nat → zG} {D : zD} {O : Nat → Int32} {M : zM} {ou : Nat → Int64} {od : Nat → UInt64} {j : Nat} {a1 : Int32} {X : Int32}   (hx : fM_beginning M a1 = some X) : Ev S xs 27 0 [some (.ref 247), some (.int a1), none, none] [] (zH I C Y Γ D O M ou od j) (((.inl (some (.int X))), (zH I C Y Γ D O M ou od j)) : (Option Value ⊕ String) × px_H) := by
  generalize hM : (((.inl (some (.int X))), (zH I C Y Γ D O M ou od j)) : (Option Value ⊕ String) × px_H) = y
  replace hM := hM.symm
  have hk : pt_mt[27]? = some pt_r27 := rfl
  unfold fM_beginning at hx
  refine ev_op (st' := [.int 0]) (pc' := 1) hk (.iconst 0) 1 rfl rfl rfl ?_
  refine ev_ls (L' := [some (.ref 247), some (.int a1), some (.int 0), none]) (st' := []) (pc' := 2) hk (.istore_n 2) 1 rfl rfl rfl rfl ?_
  refine ev_op (st' := [.int 0]) (pc' := 3) hk (.iconst 0) 1 rfl rfl rfl ?_
  refine ev_ls (L' := [some (.ref 247), some (.int a1), some (.int 0), some (.int 0)]) (st' := []) (pc' := 4) hk (.istore_n 3) 1 rfl rfl rfl rfl ?_
  exact ev_iter (qM_beginning_4 S xs I C Y Γ D O M ou od j a1 _) (fun X : Int32 => y = (((.inl (some (.int X))), (zH I C Y Γ D O M ou od j)) : (Option Value ⊕ String) × px_H)) (fun s x hb hM => rM_beginning_b4 hb hM) fu _ _ hx hM 
set_option maxRecDepth 2000 in
theorem rM_crosses {S : Nat} {xs : Nat → Int32} {I : zI} {C : zC} {Y : Nat → Int32} {Γ : Nat → zG} {D : zD} {O : Nat → Int32} {M : zM} {ou : Nat → Int64} {od : Nat → UInt64} {j : Nat} {a1 : Int32} {a2 : Int32} {X : Bool}   (hx : fM_crosses M a1 a2 = some X) : Ev S xs 40 0 [some (.ref 247), some (.int a1), some (.int a2)] [] (zH I C Y Γ D O M ou od j) (((.inl (some (.int (b2i X)))), (zH I C Y Γ D O M ou od j)) : (Option Value ⊕ String) × px_H) := by
  generalize hM : (((.inl (some (.int (b2i X)))), (zH I C Y Γ D O M ou od j)) : (Option Value ⊕ String) × px_H) = y
  replace hM := hM.symm
  have hk : pt_mt[40]? = some pt_r40 := rfl
  unfold fM_crosses at hx
  refine ev_ls (L' := [some (.ref 247), some (.int a1), some (.int a2)]) (st' := [.ref 247]) (pc' := 1) hk (.aload_n 0) 1 rfl rfl rfl rfl ?_
  refine ev_ls (L' := [some (.ref 247), some (.int a1), some (.int a2)]) (st' := [.int a1, .ref 247]) (pc' := 2) hk (.iload_n 1) 1 rfl rfl rfl rfl ?_
  refine ev_op (st' := [.int 3, .int a1, .ref 247]) (pc' := 3) hk (.iconst 3) 1 rfl rfl rfl ?_
  obtain ⟨v1, hc2, hx⟩ := bnd_some hx
  refine ev_cv 103 2 [.int v1] 6 hk rfl rfl rfl rfl lk_model rfl rfl rfl (rM_its hc2) rfl rfl rfl rfl ?_
  refine ev_d1 36 9 hk rfl rfl rfl rfl (px_cne hx (fun hc hx => ?_) (fun hc hx => ?_))
  · refine ev_op (st' := [.int 0]) (pc' := 37) hk (.iconst 0) 1 rfl rfl rfl ?_
    cases hx
    obtain rfl := hM
    exact ev_retZ false rfl hk rfl rfl
  · refine ev_ls (L' := [some (.ref 247), some (.int a1), some (.int a2)]) (st' := [.int a2]) (pc' := 10) hk (.iload_n 2) 1 rfl rfl rfl rfl ?_
    refine ev_op (st' := [.long (Int32.toInt64 a2)]) (pc' := 11) hk (.i2l) 1 rfl rfl rfl ?_
    refine ev_ls (L' := [some (.ref 247), some (.int a1), some (.int a2)]) (st' := [.ref 247, .long (Int32.toInt64 a2)]) (pc' := 12) hk (.aload_n 0) 1 rfl rfl rfl rfl ?_
    refine ev_ls (L' := [some (.ref 247), some (.int a1), some (.int a2)]) (st' := [.int a1, .ref 247, .long (Int32.toInt64 a2)]) (pc' := 13) hk (.iload_n 1) 1 rfl rfl rfl rfl ?_
    refine ev_op (st' := [.int 1, .int a1, .ref 247, .long (Int32.toInt64 a2)]) (pc' := 14) hk (.iconst 1) 1 rfl rfl rfl ?_
    obtain ⟨v3, hc4, hx⟩ := bnd_some hx
    refine ev_cv 103 2 [.int v3, .long (Int32.toInt64 a2)] 17 hk rfl rfl rfl rfl lk_model rfl rfl rfl (rM_its hc4) rfl rfl rfl rfl ?_
    refine ev_op (st' := [.int 1, .int v3, .long (Int32.toInt64 a2)]) (pc' := 18) hk (.iconst 1) 1 rfl rfl rfl ?_
    refine ev_op (st' := [.int (v3 + 1), .long (Int32.toInt64 a2)]) (pc' := 19) hk (.iadd) 1 rfl rfl rfl ?_
    refine ev_op (st' := [.long (Int32.toInt64 (v3 + 1)), .long (Int32.toInt64 a2)]) (pc' := 20) hk (.i2l) 1 rfl rfl rfl ?_
    refine ev_ls (L' := [some (.ref 247), some (.int a1), some (.int a2)]) (st' := [.ref 247, .long (Int32.toInt64 (v3 + 1)), .long (Int32.toInt64 a2)]) (pc' := 21) hk (.aload_n 0) 1 rfl rfl rfl rfl ?_
    refine ev_ls (L' := [some (.ref 247), some (.int a1), some (.int a2)]) (st' := [.int a1, .ref 247, .long (Int32.toInt64 (v3 + 1)), .long (Int32.toInt64 a2)]) (pc' := 22) hk (.iload_n 1) 1 rfl rfl rfl rfl ?_
    obtain ⟨v5, hc6, hx⟩ := bnd_some hx
    refine ev_cv 116 1 [.int v5, .long (Int32.toInt64 (v3 + 1)), .long (Int32.toInt64 a2)] 25 hk rfl rfl rfl rfl lk_model rfl rfl rfl (rM_lastOf hc6) rfl rfl rfl rfl ?_
    refine ev_op (st' := [.long (Int32.toInt64 v5), .long (Int32.toInt64 (v3 + 1)), .long (Int32.toInt64 a2)]) (pc' := 26) hk (.i2l) 1 rfl rfl rfl ?_
    refine ev_cs 86 3 [.int (b2i (fM_isIn (Int32.toInt64 a2) (Int32.toInt64 (v3 + 1)) (Int32.toInt64 v5)))] 29 hk rfl rfl (by decide) rfl rfl rfl (rM_isIn rfl) rfl rfl rfl rfl ?_
    refine ev_d1 36 32 hk rfl rfl rfl rfl (px_beq hx (fun hc hx => ?_) (fun hc hx => ?_))
    · refine ev_op (st' := [.int 0]) (pc' := 37) hk (.iconst 0) 1 rfl rfl rfl ?_
      cases hx
      obtain rfl := hM
      exact ev_retZ false rfl hk rfl rfl
    · refine ev_op (st' := [.int 1]) (pc' := 33) hk (.iconst 1) 1 rfl rfl rfl ?_
      refine ev_jp (pc' := 37) (st' := [.int 1]) hk (.goto 4) 3 rfl rfl rfl rfl rfl ?_
      cases hx
      obtain rfl := hM
      exact ev_retZ true rfl hk rfl rfl
def qM_tears_11 (S : Nat) (xs : Nat → Int32) (I : zI) (C : zC) (Y : Nat → Int32) (Γ : Nat → zG) (D : zD) (O : Nat → Int32) (ou : Nat → Int64) (od : Nat → UInt64) (j : Nat) (a2 : Int32) (y : (Option Value ⊕ String) × px_H) (s : zM × Int32 × Int32) : Prop := ∀ (u1 : Option Value) (hu1 : px_cz u1 = true), Ev S xs 178 11 [some (.ref 247), u1, some (.int a2), some (.int s.2.1), some (.int s.2.2)] [] (zH I C Y Γ D O s.1 ou od j) y
set_option maxRecDepth 4000 in
theorem rM_tears_b11 {S : Nat} {xs : Nat → Int32} {I : zI} {C : zC} {Y : Nat → Int32} {Γ : Nat → zG} {D : zD} {O : Nat → Int32} {ou : Nat → Int64} {od : Nat → UInt64} {j : Nat} {a2 : Int32} {y : (Option Value ⊕ String) × px_H} {s : zM × Int32 × Int32} {x : (zM × Int32 × Int32) ⊕ (Int32 × zM)}  (hx : fM_tears_b11 a2 s.1 s.2.1 s.2.2 = some x) (hM : (Sum.elim (qM_tears_11 S xs I C Y Γ D O ou od j a2 y) (fun X : Int32 × zM => y = (((.inl (some (.int X.1))), (zH I C Y Γ D O X.2 ou od j)) : (Option Value ⊕ String) × px_H))) x) : qM_tears_11 S xs I C Y Γ D O ou od j a2 y s := by
  obtain ⟨M, a3, a4⟩ := s
  intro u1 hu1
  have hk : pt_mt[178]? = some pt_r178 := rfl
  unfold fM_tears_b11 at hx
  try dsimp only at hx
  refine ev_ls (L' := [some (.ref 247), u1, some (.int a2), some (.int a3), some (.int a4)]) (st' := [.int a4]) (pc' := 13) hk (.iload 4) 2 rfl rfl rfl rfl ?_
  refine ev_ls (L' := [some (.ref 247), u1, some (.int a2), some (.int a3), some (.int a4)]) (st' := [.ref 247, .int a4]) (pc' := 14) hk (.aload_n 0) 1 rfl rfl rfl rfl ?_
  refine ev_gf (.ref 249) 17 hk rfl rfl lk_model rfl rfl ?_
  refine ev_op (st' := [.int 2, .ref 249, .int a4]) (pc' := 18) hk (.iconst 2) 1 rfl rfl rfl ?_
  refine ev_ial (v := ((mA M 249) 2)) rfl 19 hk rfl lk_m249 rfl ?_
  refine ev_d2 57 22 hk rfl rfl rfl rfl (px_cge hx (fun hc hx => ?_) (fun hc hx => ?_))
  · refine ev_ls (L' := [some (.ref 247), u1, some (.int a2), some (.int a3), some (.int a4)]) (st' := [.int a3]) (pc' := 58) hk (.iload_n 3) 1 rfl rfl rfl rfl ?_
    cases hx
    obtain rfl := hM
    exact ev_retI hk rfl rfl
  · refine ev_ls (L' := [some (.ref 247), u1, some (.int a2), some (.int a3), some (.int a4)]) (st' := [.ref 247]) (pc' := 23) hk (.aload_n 0) 1 rfl rfl rfl rfl ?_
    refine ev_ls (L' := [some (.ref 247), u1, some (.int a2), some (.int a3), some (.int a4)]) (st' := [.int a4, .ref 247]) (pc' := 25) hk (.iload 4) 2 rfl rfl rfl rfl ?_
    refine ev_ls (L' := [some (.ref 247), u1, some (.int a2), some (.int a3), some (.int a4)]) (st' := [.int a2, .int a4, .ref 247]) (pc' := 26) hk (.iload_n 2) 1 rfl rfl rfl rfl ?_
    obtain ⟨v7, hc8, hx⟩ := bnd_some hx
    refine ev_cv 40 2 [.int (b2i v7)] 29 hk rfl rfl rfl rfl lk_model rfl rfl rfl (rM_crosses hc8) rfl rfl rfl rfl ?_
    refine ev_d1 35 32 hk rfl rfl rfl rfl (px_bne hx (fun hc hx => ?_) (fun hc hx => ?_))
    · refine ev_ls (L' := [some (.ref 247), u1, some (.int a2), some (.int a3), some (.int a4)]) (st' := [.ref 247]) (pc' := 36) hk (.aload_n 0) 1 rfl rfl rfl rfl ?_
      refine ev_gf (.ref 249) 39 hk rfl rfl lk_model rfl rfl ?_
      refine ev_ls (L' := [some (.ref 247), u1, some (.int a2), some (.int a3), some (.int a4)]) (st' := [.int a4, .ref 249]) (pc' := 41) hk (.iload 4) 2 rfl rfl rfl rfl ?_
      refine ev_cs 118 1 [.int (fM_lbl a4), .ref 249] 44 hk rfl rfl (by decide) rfl rfl rfl (rM_lbl rfl) rfl rfl rfl rfl ?_
      refine ev_op (st' := [.int 3, .int (fM_lbl a4), .ref 249]) (pc' := 45) hk (.iconst 3) 1 rfl rfl rfl ?_
      refine ev_op (st' := [.int ((fM_lbl a4) + 3), .ref 249]) (pc' := 46) hk (.iadd) 1 rfl rfl rfl ?_
      refine ev_op (st' := [.int 1, .int ((fM_lbl a4) + 3), .ref 249]) (pc' := 47) hk (.iconst 1) 1 rfl rfl rfl ?_
      obtain ⟨A9, hA9, hx⟩ := bnd_some hx
      obtain ⟨M10, hM10, hx⟩ := bnd_some hx
      have hM10 := Option.some.inj hM10
      refine ev_ias hA9 48 hk rfl lk_m249 (sa_m249 hM10) rfl ?_
      refine ev_ls (L' := [some (.ref 247), u1, some (.int a2), some (.int (a3 + 1)), some (.int a4)]) (st' := []) (pc' := 51) hk (.iinc 3 1) 3 rfl rfl rfl rfl ?_
      refine ev_ls (L' := [some (.ref 247), u1, some (.int a2), some (.int (a3 + 1)), some (.int (a4 + 1))]) (st' := []) (pc' := 54) hk (.iinc 4 1) 3 rfl rfl rfl rfl ?_
      refine ev_jp (pc' := 11) (st' := []) hk (.goto (-43)) 3 rfl rfl rfl rfl rfl ?_
      cases hx
      exact hM u1 hu1
    · refine ev_jp (pc' := 51) (st' := []) hk (.goto 19) 3 rfl rfl rfl rfl rfl ?_
      refine ev_ls (L' := [some (.ref 247), u1, some (.int a2), some (.int a3), some (.int (a4 + 1))]) (st' := []) (pc' := 54) hk (.iinc 4 1) 3 rfl rfl rfl rfl ?_
      refine ev_jp (pc' := 11) (st' := []) hk (.goto (-43)) 3 rfl rfl rfl rfl rfl ?_
      cases hx
      exact hM u1 hu1
set_option maxRecDepth 2000 in
theorem rM_tears {S : Nat} {xs : Nat → Int32} {I : zI} {C : zC} {Y : Nat → Int32} {Γ : Nat → zG} {D : zD} {O : Nat → Int32} {M : zM} {ou : Nat → Int64} {od : Nat → UInt64} {j : Nat} {a1 : Int32} {X : Int32 × zM}   (hx : fM_tears M a1 = some X) : Ev S xs 178 0 [some (.ref 247), some (.int a1), none, none, none] [] (zH I C Y Γ D O M ou od j) (((.inl (some (.int X.1))), (zH I C Y Γ D O X.2 ou od j)) : (Option Value ⊕ String) × px_H) := by
  generalize hM : (((.inl (some (.int X.1))), (zH I C Y Γ D O X.2 ou od j)) : (Option Value ⊕ String) × px_H) = y
  replace hM := hM.symm
  have hk : pt_mt[178]? = some pt_r178 := rfl
  unfold fM_tears at hx
  refine ev_ls (L' := [some (.ref 247), some (.int a1), none, none, none]) (st' := [.ref 247]) (pc' := 1) hk (.aload_n 0) 1 rfl rfl rfl rfl ?_
  refine ev_ls (L' := [some (.ref 247), some (.int a1), none, none, none]) (st' := [.int a1, .ref 247]) (pc' := 2) hk (.iload_n 1) 1 rfl rfl rfl rfl ?_
  obtain ⟨v11, hc12, hx⟩ := bnd_some hx
  refine ev_cv 27 1 [.int v11] 5 hk rfl rfl rfl rfl lk_model rfl rfl rfl (rM_beginning hc12) rfl rfl rfl rfl ?_
  refine ev_ls (L' := [some (.ref 247), some (.int a1), some (.int v11), none, none]) (st' := []) (pc' := 6) hk (.istore_n 2) 1 rfl rfl rfl rfl ?_
  refine ev_op (st' := [.int 0]) (pc' := 7) hk (.iconst 0) 1 rfl rfl rfl ?_
  refine ev_ls (L' := [some (.ref 247), some (.int a1), some (.int v11), some (.int 0), none]) (st' := []) (pc' := 8) hk (.istore_n 3) 1 rfl rfl rfl rfl ?_
  refine ev_op (st' := [.int 0]) (pc' := 9) hk (.iconst 0) 1 rfl rfl rfl ?_
  refine ev_ls (L' := [some (.ref 247), some (.int a1), some (.int v11), some (.int 0), some (.int 0)]) (st' := []) (pc' := 11) hk (.istore 4) 2 rfl rfl rfl rfl ?_
  exact ev_iter (qM_tears_11 S xs I C Y Γ D O ou od j v11 _) (fun X : Int32 × zM => y = (((.inl (some (.int X.1))), (zH I C Y Γ D O X.2 ou od j)) : (Option Value ⊕ String) × px_H)) (fun s x hb hM => rM_tears_b11 hb hM) fu _ _ hx hM (some (.int a1)) rfl
set_option maxRecDepth 4000 in
theorem rM_wears_j52 {S : Nat} {xs : Nat → Int32} {I : zI} {C : zC} {Y : Nat → Int32} {Γ : Nat → zG} {D : zD} {O : Nat → Int32} {M : zM} {ou : Nat → Int64} {od : Nat → UInt64} {j : Nat} {a1 : Int32} {a0t : Int32} {a1t : Int32} {y : (Option Value ⊕ String) × px_H} {x : Int32 × zM}  (hx : fM_wears_j52 M a1 a0t a1t = some x) (hM : (fun X : Int32 × zM => y = (((.inl (some (.int X.1))), (zH I C Y Γ D O X.2 ou od j)) : (Option Value ⊕ String) × px_H)) x) (u2 : Option Value) (hu2 : px_cz u2 = true) : Ev S xs 196 52 [some (.ref 247), some (.int a1), u2] [.int a0t, .int a1t, .ref 249] (zH I C Y Γ D O M ou od j) y := by
  have hk : pt_mt[196]? = some pt_r196 := rfl
  unfold fM_wears_j52 at hx
  obtain ⟨A6, hA6, hx⟩ := bnd_some hx
  obtain ⟨M7, hM7, hx⟩ := bnd_some hx
  have hM7 := Option.some.inj hM7
  refine ev_ias hA6 53 hk rfl lk_m249 (sa_m249 hM7) rfl ?_
  refine ev_ls (L' := [some (.ref 247), some (.int a1), u2]) (st' := [.ref 247]) (pc' := 54) hk (.aload_n 0) 1 rfl rfl rfl rfl ?_
  refine ev_ls (L' := [some (.ref 247), some (.int a1), u2]) (st' := [.int a1, .ref 247]) (pc' := 55) hk (.iload_n 1) 1 rfl rfl rfl rfl ?_
  obtain ⟨v8, hc9, hx⟩ := bnd_some hx
  refine ev_cv 98 1 [.int (b2i v8)] 58 hk rfl rfl rfl rfl lk_model rfl rfl rfl (rM_isTornSeam hc9) rfl rfl rfl rfl ?_
  refine ev_d1 63 61 hk rfl rfl rfl rfl (px_bne hx (fun hc hx => ?_) (fun hc hx => ?_))
  · refine ev_ls (L' := [some (.ref 247), some (.int a1), u2]) (st' := [.ref 247]) (pc' := 64) hk (.aload_n 0) 1 rfl rfl rfl rfl ?_
    refine ev_ls (L' := [some (.ref 247), some (.int a1), u2]) (st' := [.ref 247, .ref 247]) (pc' := 65) hk (.aload_n 0) 1 rfl rfl rfl rfl ?_
    refine ev_ls (L' := [some (.ref 247), some (.int a1), u2]) (st' := [.int a1, .ref 247, .ref 247]) (pc' := 66) hk (.iload_n 1) 1 rfl rfl rfl rfl ?_
    obtain ⟨v11, M10, hc12, hx⟩ := bnd2_some hx
    refine ev_cv 178 1 [.int v11, .ref 247] 69 hk rfl rfl rfl rfl lk_model rfl rfl rfl (rM_tears hc12) rfl rfl rfl rfl ?_
    obtain ⟨M13, hM13, hx⟩ := bnd_some hx
    have hM13 := Option.some.inj hM13
    refine ev_pf 72 hk rfl rfl lk_model rfl rfl rfl (sf_8_29 hM13) rfl ?_
    refine ev_op (st' := [.int 1]) (pc' := 73) hk (.iconst 1) 1 rfl rfl rfl ?_
    cases hx
    obtain rfl := hM
    exact ev_retI hk rfl rfl
  · refine ev_op (st' := [.int 0]) (pc' := 62) hk (.iconst 0) 1 rfl rfl rfl ?_
    cases hx
    obtain rfl := hM
    exact ev_retI hk rfl rfl
set_option maxRecDepth 2000 in
theorem rM_wears {S : Nat} {xs : Nat → Int32} {I : zI} {C : zC} {Y : Nat → Int32} {Γ : Nat → zG} {D : zD} {O : Nat → Int32} {M : zM} {ou : Nat → Int64} {od : Nat → UInt64} {j : Nat} {a1 : Int32} {X : Int32 × zM}   (hx : fM_wears M a1 = some X) : Ev S xs 196 0 [some (.ref 247), some (.int a1), none] [] (zH I C Y Γ D O M ou od j) (((.inl (some (.int X.1))), (zH I C Y Γ D O X.2 ou od j)) : (Option Value ⊕ String) × px_H) := by
  generalize hM : (((.inl (some (.int X.1))), (zH I C Y Γ D O X.2 ou od j)) : (Option Value ⊕ String) × px_H) = y
  replace hM := hM.symm
  have hk : pt_mt[196]? = some pt_r196 := rfl
  unfold fM_wears at hx
  refine ev_ls (L' := [some (.ref 247), some (.int a1), none]) (st' := [.ref 247]) (pc' := 1) hk (.aload_n 0) 1 rfl rfl rfl rfl ?_
  refine ev_ls (L' := [some (.ref 247), some (.int a1), none]) (st' := [.int a1, .ref 247]) (pc' := 2) hk (.iload_n 1) 1 rfl rfl rfl rfl ?_
  obtain ⟨v14, hc15, hx⟩ := bnd_some hx
  refine ev_cv 98 1 [.int (b2i v14)] 5 hk rfl rfl rfl rfl lk_model rfl rfl rfl (rM_isTornSeam hc15) rfl rfl rfl rfl ?_
  refine ev_d1 10 8 hk rfl rfl rfl rfl (px_beq hx (fun hc hx => ?_) (fun hc hx => ?_))
  · refine ev_ls (L' := [some (.ref 247), some (.int a1), none]) (st' := [.ref 247]) (pc' := 11) hk (.aload_n 0) 1 rfl rfl rfl rfl ?_
    refine ev_ls (L' := [some (.ref 247), some (.int a1), none]) (st' := [.int a1, .ref 247]) (pc' := 12) hk (.iload_n 1) 1 rfl rfl rfl rfl ?_
    obtain ⟨v16, hc17, hx⟩ := bnd_some hx
    refine ev_cv 176 1 [.int v16] 15 hk rfl rfl rfl rfl lk_model rfl rfl rfl (rM_strain hc17) rfl rfl rfl rfl ?_
    refine ev_ls (L' := [some (.ref 247), some (.int a1), some (.int v16)]) (st' := []) (pc' := 16) hk (.istore_n 2) 1 rfl rfl rfl rfl ?_
    refine ev_ls (L' := [some (.ref 247), some (.int a1), some (.int v16)]) (st' := [.ref 247]) (pc' := 17) hk (.aload_n 0) 1 rfl rfl rfl rfl ?_
    refine ev_gf (.ref 249) 20 hk rfl rfl lk_model rfl rfl ?_
    refine ev_op (st' := [.int 26, .ref 249]) (pc' := 22) hk (.bipush 26) 2 rfl rfl rfl ?_
    refine ev_ls (L' := [some (.ref 247), some (.int a1), some (.int v16)]) (st' := [.int a1, .int 26, .ref 249]) (pc' := 23) hk (.iload_n 1) 1 rfl rfl rfl rfl ?_
    refine ev_op (st' := [.int (26 + a1), .ref 249]) (pc' := 24) hk (.iadd) 1 rfl rfl rfl ?_
    refine ev_ls (L' := [some (.ref 247), some (.int a1), some (.int v16)]) (st' := [.int v16, .int (26 + a1), .ref 249]) (pc' := 25) hk (.iload_n 2) 1 rfl rfl rfl rfl ?_
    refine ev_ls (L' := [some (.ref 247), some (.int a1), some (.int v16)]) (st' := [.ref 247, .int v16, .int (26 + a1), .ref 249]) (pc' := 26) hk (.aload_n 0) 1 rfl rfl rfl rfl ?_
    refine ev_gf (.ref 249) 29 hk rfl rfl lk_model rfl rfl ?_
    refine ev_op (st' := [.int 26, .ref 249, .int v16, .int (26 + a1), .ref 249]) (pc' := 31) hk (.bipush 26) 2 rfl rfl rfl ?_
    refine ev_ls (L' := [some (.ref 247), some (.int a1), some (.int v16)]) (st' := [.int a1, .int 26, .ref 249, .int v16, .int (26 + a1), .ref 249]) (pc' := 32) hk (.iload_n 1) 1 rfl rfl rfl rfl ?_
    refine ev_op (st' := [.int (26 + a1), .ref 249, .int v16, .int (26 + a1), .ref 249]) (pc' := 33) hk (.iadd) 1 rfl rfl rfl ?_
    obtain ⟨v18, hv18, hx⟩ := bnd_some hx
    refine ev_ial hv18 34 hk rfl lk_m249 rfl ?_
    refine ev_d2 51 37 hk rfl rfl rfl rfl (px_cge hx (fun hc hx => ?_) (fun hc hx => ?_))
    · refine ev_op (st' := [.int 0, .int (26 + a1), .ref 249]) (pc' := 52) hk (.iconst 0) 1 rfl rfl rfl ?_
      exact rM_wears_j52 hx hM (some (.int v16)) rfl
    · refine ev_ls (L' := [some (.ref 247), some (.int a1), some (.int v16)]) (st' := [.ref 247, .int (26 + a1), .ref 249]) (pc' := 38) hk (.aload_n 0) 1 rfl rfl rfl rfl ?_
      refine ev_gf (.ref 249) 41 hk rfl rfl lk_model rfl rfl ?_
      refine ev_op (st' := [.int 26, .ref 249, .int (26 + a1), .ref 249]) (pc' := 43) hk (.bipush 26) 2 rfl rfl rfl ?_
      refine ev_ls (L' := [some (.ref 247), some (.int a1), some (.int v16)]) (st' := [.int a1, .int 26, .ref 249, .int (26 + a1), .ref 249]) (pc' := 44) hk (.iload_n 1) 1 rfl rfl rfl rfl ?_
      refine ev_op (st' := [.int (26 + a1), .ref 249, .int (26 + a1), .ref 249]) (pc' := 45) hk (.iadd) 1 rfl rfl rfl ?_
      obtain ⟨v19, hv19, hx⟩ := bnd_some hx
      refine ev_ial hv19 46 hk rfl lk_m249 rfl ?_
      refine ev_ls (L' := [some (.ref 247), some (.int a1), some (.int v16)]) (st' := [.int v16, .int v19, .int (26 + a1), .ref 249]) (pc' := 47) hk (.iload_n 2) 1 rfl rfl rfl rfl ?_
      refine ev_op (st' := [.int (v19 - v16), .int (26 + a1), .ref 249]) (pc' := 48) hk (.isub) 1 rfl rfl rfl ?_
      refine ev_jp (pc' := 52) (st' := [.int (v19 - v16), .int (26 + a1), .ref 249]) hk (.goto 4) 3 rfl rfl rfl rfl rfl ?_
      exact rM_wears_j52 hx hM (some (.int v16)) rfl
  · refine ev_op (st' := [.int 0]) (pc' := 9) hk (.iconst 0) 1 rfl rfl rfl ?_
    cases hx
    obtain rfl := hM
    exact ev_retI hk rfl rfl
def qM_passesOne_12 (S : Nat) (xs : Nat → Int32) (I : zI) (C : zC) (Y : Nat → Int32) (Γ : Nat → zG) (D : zD) (O : Nat → Int32) (ou : Nat → Int64) (od : Nat → UInt64) (j : Nat) (y : (Option Value ⊕ String) × px_H) (s : zM × Int32) : Prop := Ev S xs 150 12 [some (.ref 247), some (.int s.2), none] [] (zH I C Y Γ D O s.1 ou od j) y
def qM_passesOne_68 (S : Nat) (xs : Nat → Int32) (I : zI) (C : zC) (Y : Nat → Int32) (Γ : Nat → zG) (D : zD) (O : Nat → Int32) (ou : Nat → Int64) (od : Nat → UInt64) (j : Nat) (y : (Option Value ⊕ String) × px_H) (s : zM × Int32) : Prop := Ev S xs 150 68 [some (.ref 247), some (.int s.2), none] [] (zH I C Y Γ D O s.1 ou od j) y
def qM_passesOne_101 (S : Nat) (xs : Nat → Int32) (I : zI) (C : zC) (Y : Nat → Int32) (Γ : Nat → zG) (D : zD) (O : Nat → Int32) (ou : Nat → Int64) (od : Nat → UInt64) (j : Nat) (y : (Option Value ⊕ String) × px_H) (s : zM × Int32 × Int32) : Prop := Ev S xs 150 101 [some (.ref 247), some (.int s.2.1), some (.int s.2.2)] [] (zH I C Y Γ D O s.1 ou od j) y
set_option maxRecDepth 4000 in
theorem rM_passesOne_j55 {S : Nat} {xs : Nat → Int32} {I : zI} {C : zC} {Y : Nat → Int32} {Γ : Nat → zG} {D : zD} {O : Nat → Int32} {M : zM} {ou : Nat → Int64} {od : Nat → UInt64} {j : Nat} {a1 : Int32} {a0t : Bool} {a1t : Int32} {a2t : Int32} {y : (Option Value ⊕ String) × px_H} {x : (zM × Int32) ⊕ (Int32 × zM)}  (hx : fM_passesOne_j55 M a1 a0t a1t a2t = some x) (hM : (Sum.elim (qM_passesOne_12 S xs I C Y Γ D O ou od j y) (fun X : Int32 × zM => y = (((.inl (some (.int X.1))), (zH I C Y Γ D O X.2 ou od j)) : (Option Value ⊕ String) × px_H))) x)  : Ev S xs 150 55 [some (.ref 247), some (.int a1), none] [.int (b2i a0t), .int a1t, .int a2t, .ref 249] (zH I C Y Γ D O M ou od j) y := by
  have hk : pt_mt[150]? = some pt_r150 := rfl
  unfold fM_passesOne_j55 at hx
  refine ev_cs 189 1 [.int (fM_truth a0t), .int a1t, .int a2t, .ref 249] 58 hk rfl rfl (by decide) rfl rfl rfl (rM_truth rfl) rfl rfl rfl rfl ?_
  refine ev_op (st' := [.int (a1t + (fM_truth a0t)), .int a2t, .ref 249]) (pc' := 59) hk (.iadd) 1 rfl rfl rfl ?_
  obtain ⟨A10, hA10, hx⟩ := bnd_some hx
  obtain ⟨M11, hM11, hx⟩ := bnd_some hx
  have hM11 := Option.some.inj hM11
  refine ev_ias hA10 60 hk rfl lk_m249 (sa_m249 hM11) rfl ?_
  refine ev_ls (L' := [some (.ref 247), some (.int (a1 + 1)), none]) (st' := []) (pc' := 63) hk (.iinc 1 1) 3 rfl rfl rfl rfl ?_
  refine ev_jp (pc' := 12) (st' := []) hk (.goto (-51)) 3 rfl rfl rfl rfl rfl ?_
  cases hx
  exact hM
set_option maxRecDepth 4000 in
theorem rM_passesOne_b101 {S : Nat} {xs : Nat → Int32} {I : zI} {C : zC} {Y : Nat → Int32} {Γ : Nat → zG} {D : zD} {O : Nat → Int32} {ou : Nat → Int64} {od : Nat → UInt64} {j : Nat}  {y : (Option Value ⊕ String) × px_H} {s : zM × Int32 × Int32} {x : (zM × Int32 × Int32) ⊕ (Int32 × zM)}  (hx : fM_passesOne_b101 s.1 s.2.1 s.2.2 = some x) (hM : (Sum.elim (qM_passesOne_101 S xs I C Y Γ D O ou od j y) (fun X : Int32 × zM => y = (((.inl (some (.int X.1))), (zH I C Y Γ D O X.2 ou od j)) : (Option Value ⊕ String) × px_H))) x) : qM_passesOne_101 S xs I C Y Γ D O ou od j y s := by
  obtain ⟨M, a1, a2⟩ := s
  have hk : pt_mt[150]? = some pt_r150 := rfl
  unfold fM_passesOne_b101 at hx
  try dsimp only at hx
  refine ev_ls (L' := [some (.ref 247), some (.int a1), some (.int a2)]) (st' := [.int a2]) (pc' := 102) hk (.iload_n 2) 1 rfl rfl rfl rfl ?_
  refine ev_ls (L' := [some (.ref 247), some (.int a1), some (.int a2)]) (st' := [.ref 247, .int a2]) (pc' := 103) hk (.aload_n 0) 1 rfl rfl rfl rfl ?_
  refine ev_gf (.ref 249) 106 hk rfl rfl lk_model rfl rfl ?_
  refine ev_op (st' := [.int 0, .ref 249, .int a2]) (pc' := 107) hk (.iconst 0) 1 rfl rfl rfl ?_
  refine ev_ial (v := ((mA M 249) 0)) rfl 108 hk rfl lk_m249 rfl ?_
  refine ev_d2 137 111 hk rfl rfl rfl rfl (px_cge hx (fun hc hx => ?_) (fun hc hx => ?_))
  · refine ev_ls (L' := [some (.ref 247), some (.int a1), some (.int a2)]) (st' := [.int a1]) (pc' := 138) hk (.iload_n 1) 1 rfl rfl rfl rfl ?_
    cases hx
    obtain rfl := hM
    exact ev_retI hk rfl rfl
  · refine ev_ls (L' := [some (.ref 247), some (.int a1), some (.int a2)]) (st' := [.ref 247]) (pc' := 112) hk (.aload_n 0) 1 rfl rfl rfl rfl ?_
    refine ev_gf (.ref 249) 115 hk rfl rfl lk_model rfl rfl ?_
    refine ev_op (st' := [.int 4, .ref 249]) (pc' := 116) hk (.iconst 4) 1 rfl rfl rfl ?_
    refine ev_ial (v := ((mA M 249) 4)) rfl 117 hk rfl lk_m249 rfl ?_
    refine ev_op (st' := [.int 6, .int ((mA M 249) 4)]) (pc' := 119) hk (.bipush 6) 2 rfl rfl rfl ?_
    refine ev_rem 120 hk rfl (by decide) rfl ?_
    refine ev_d1 137 123 hk rfl rfl rfl rfl (px_cne hx (fun hc hx => ?_) (fun hc hx => ?_))
    · refine ev_ls (L' := [some (.ref 247), some (.int a1), some (.int a2)]) (st' := [.int a1]) (pc' := 138) hk (.iload_n 1) 1 rfl rfl rfl rfl ?_
      cases hx
      obtain rfl := hM
      exact ev_retI hk rfl rfl
    · refine ev_ls (L' := [some (.ref 247), some (.int a1), some (.int a2)]) (st' := [.int a1]) (pc' := 124) hk (.iload_n 1) 1 rfl rfl rfl rfl ?_
      refine ev_ls (L' := [some (.ref 247), some (.int a1), some (.int a2)]) (st' := [.ref 247, .int a1]) (pc' := 125) hk (.aload_n 0) 1 rfl rfl rfl rfl ?_
      refine ev_ls (L' := [some (.ref 247), some (.int a1), some (.int a2)]) (st' := [.int a2, .ref 247, .int a1]) (pc' := 126) hk (.iload_n 2) 1 rfl rfl rfl rfl ?_
      obtain ⟨v22, M21, hc23, hx⟩ := bnd2_some hx
      refine ev_cv 196 1 [.int v22, .int a1] 129 hk rfl rfl rfl rfl lk_model rfl rfl rfl (rM_wears hc23) rfl rfl rfl rfl ?_
      refine ev_op (st' := [.int (a1 + v22)]) (pc' := 130) hk (.iadd) 1 rfl rfl rfl ?_
      refine ev_ls (L' := [some (.ref 247), some (.int (a1 + v22)), some (.int a2)]) (st' := []) (pc' := 131) hk (.istore_n 1) 1 rfl rfl rfl rfl ?_
      refine ev_ls (L' := [some (.ref 247), some (.int (a1 + v22)), some (.int (a2 + 1))]) (st' := []) (pc' := 134) hk (.iinc 2 1) 3 rfl rfl rfl rfl ?_
      refine ev_jp (pc' := 101) (st' := []) hk (.goto (-33)) 3 rfl rfl rfl rfl rfl ?_
      cases hx
      exact hM
set_option maxRecDepth 4000 in
theorem rM_passesOne_b68 {S : Nat} {xs : Nat → Int32} {I : zI} {C : zC} {Y : Nat → Int32} {Γ : Nat → zG} {D : zD} {O : Nat → Int32} {ou : Nat → Int64} {od : Nat → UInt64} {j : Nat}  {y : (Option Value ⊕ String) × px_H} {s : zM × Int32} {x : (zM × Int32) ⊕ (Int32 × zM)}  (hx : fM_passesOne_b68 s.1 s.2 = some x) (hM : (Sum.elim (qM_passesOne_68 S xs I C Y Γ D O ou od j y) (fun X : Int32 × zM => y = (((.inl (some (.int X.1))), (zH I C Y Γ D O X.2 ou od j)) : (Option Value ⊕ String) × px_H))) x) : qM_passesOne_68 S xs I C Y Γ D O ou od j y s := by
  obtain ⟨M, a1⟩ := s
  have hk : pt_mt[150]? = some pt_r150 := rfl
  unfold fM_passesOne_b68 at hx
  try dsimp only at hx
  refine ev_ls (L' := [some (.ref 247), some (.int a1), none]) (st' := [.int a1]) (pc' := 69) hk (.iload_n 1) 1 rfl rfl rfl rfl ?_
  refine ev_ls (L' := [some (.ref 247), some (.int a1), none]) (st' := [.ref 247, .int a1]) (pc' := 70) hk (.aload_n 0) 1 rfl rfl rfl rfl ?_
  refine ev_gf (.ref 249) 73 hk rfl rfl lk_model rfl rfl ?_
  refine ev_op (st' := [.int 1, .ref 249, .int a1]) (pc' := 74) hk (.iconst 1) 1 rfl rfl rfl ?_
  refine ev_ial (v := ((mA M 249) 1)) rfl 75 hk rfl lk_m249 rfl ?_
  refine ev_d2 97 78 hk rfl rfl rfl rfl (px_cge hx (fun hc hx => ?_) (fun hc hx => ?_))
  · refine ev_op (st' := [.int 0]) (pc' := 98) hk (.iconst 0) 1 rfl rfl rfl ?_
    refine ev_ls (L' := [some (.ref 247), some (.int 0), none]) (st' := []) (pc' := 99) hk (.istore_n 1) 1 rfl rfl rfl rfl ?_
    refine ev_op (st' := [.int 0]) (pc' := 100) hk (.iconst 0) 1 rfl rfl rfl ?_
    refine ev_ls (L' := [some (.ref 247), some (.int 0), some (.int 0)]) (st' := []) (pc' := 101) hk (.istore_n 2) 1 rfl rfl rfl rfl ?_
    obtain ⟨X, hx2, hX⟩ := Option.map_eq_some_iff.mp hx
    clear hx; subst hX; have hx := hx2; clear hx2
    exact ev_iter (qM_passesOne_101 S xs I C Y Γ D O ou od j _) (fun X : Int32 × zM => y = (((.inl (some (.int X.1))), (zH I C Y Γ D O X.2 ou od j)) : (Option Value ⊕ String) × px_H)) (fun s x hb hM => rM_passesOne_b101 hb hM) fu _ _ hx hM 
  · refine ev_ls (L' := [some (.ref 247), some (.int a1), none]) (st' := [.ref 247]) (pc' := 79) hk (.aload_n 0) 1 rfl rfl rfl rfl ?_
    refine ev_ls (L' := [some (.ref 247), some (.int a1), none]) (st' := [.int a1, .ref 247]) (pc' := 80) hk (.iload_n 1) 1 rfl rfl rfl rfl ?_
    obtain ⟨v17, hc18, hx⟩ := bnd_some hx
    refine ev_cv 187 1 [.int (b2i v17)] 83 hk rfl rfl rfl rfl lk_model rfl rfl rfl (rM_travels hc18) rfl rfl rfl rfl ?_
    refine ev_d1 91 86 hk rfl rfl rfl rfl (px_beq hx (fun hc hx => ?_) (fun hc hx => ?_))
    · refine ev_ls (L' := [some (.ref 247), some (.int (a1 + 1)), none]) (st' := []) (pc' := 94) hk (.iinc 1 1) 3 rfl rfl rfl rfl ?_
      refine ev_jp (pc' := 68) (st' := []) hk (.goto (-26)) 3 rfl rfl rfl rfl rfl ?_
      cases hx
      exact hM
    · refine ev_ls (L' := [some (.ref 247), some (.int a1), none]) (st' := [.ref 247]) (pc' := 87) hk (.aload_n 0) 1 rfl rfl rfl rfl ?_
      refine ev_ls (L' := [some (.ref 247), some (.int a1), none]) (st' := [.int a1, .ref 247]) (pc' := 88) hk (.iload_n 1) 1 rfl rfl rfl rfl ?_
      obtain ⟨M19, hc20, hx⟩ := bnd_some hx
      refine ev_cv 195 1 [] 91 hk rfl rfl rfl rfl lk_model rfl rfl rfl (rM_walksOn hc20) rfl rfl rfl rfl ?_
      refine ev_ls (L' := [some (.ref 247), some (.int (a1 + 1)), none]) (st' := []) (pc' := 94) hk (.iinc 1 1) 3 rfl rfl rfl rfl ?_
      refine ev_jp (pc' := 68) (st' := []) hk (.goto (-26)) 3 rfl rfl rfl rfl rfl ?_
      cases hx
      exact hM
set_option maxRecDepth 4000 in
theorem rM_passesOne_b12 {S : Nat} {xs : Nat → Int32} {I : zI} {C : zC} {Y : Nat → Int32} {Γ : Nat → zG} {D : zD} {O : Nat → Int32} {ou : Nat → Int64} {od : Nat → UInt64} {j : Nat}  {y : (Option Value ⊕ String) × px_H} {s : zM × Int32} {x : (zM × Int32) ⊕ (Int32 × zM)}  (hx : fM_passesOne_b12 s.1 s.2 = some x) (hM : (Sum.elim (qM_passesOne_12 S xs I C Y Γ D O ou od j y) (fun X : Int32 × zM => y = (((.inl (some (.int X.1))), (zH I C Y Γ D O X.2 ou od j)) : (Option Value ⊕ String) × px_H))) x) : qM_passesOne_12 S xs I C Y Γ D O ou od j y s := by
  obtain ⟨M, a1⟩ := s
  have hk : pt_mt[150]? = some pt_r150 := rfl
  unfold fM_passesOne_b12 at hx
  try dsimp only at hx
  refine ev_ls (L' := [some (.ref 247), some (.int a1), none]) (st' := [.int a1]) (pc' := 13) hk (.iload_n 1) 1 rfl rfl rfl rfl ?_
  refine ev_ls (L' := [some (.ref 247), some (.int a1), none]) (st' := [.ref 247, .int a1]) (pc' := 14) hk (.aload_n 0) 1 rfl rfl rfl rfl ?_
  refine ev_gf (.ref 249) 17 hk rfl rfl lk_model rfl rfl ?_
  refine ev_op (st' := [.int 1, .ref 249, .int a1]) (pc' := 18) hk (.iconst 1) 1 rfl rfl rfl ?_
  refine ev_ial (v := ((mA M 249) 1)) rfl 19 hk rfl lk_m249 rfl ?_
  refine ev_d2 66 22 hk rfl rfl rfl rfl (px_cge hx (fun hc hx => ?_) (fun hc hx => ?_))
  · refine ev_op (st' := [.int 0]) (pc' := 67) hk (.iconst 0) 1 rfl rfl rfl ?_
    refine ev_ls (L' := [some (.ref 247), some (.int 0), none]) (st' := []) (pc' := 68) hk (.istore_n 1) 1 rfl rfl rfl rfl ?_
    obtain ⟨X, hx2, hX⟩ := Option.map_eq_some_iff.mp hx
    clear hx; subst hX; have hx := hx2; clear hx2
    exact ev_iter (qM_passesOne_68 S xs I C Y Γ D O ou od j _) (fun X : Int32 × zM => y = (((.inl (some (.int X.1))), (zH I C Y Γ D O X.2 ou od j)) : (Option Value ⊕ String) × px_H)) (fun s x hb hM => rM_passesOne_b68 hb hM) fu _ _ hx hM 
  · refine ev_ls (L' := [some (.ref 247), some (.int a1), none]) (st' := [.ref 247]) (pc' := 23) hk (.aload_n 0) 1 rfl rfl rfl rfl ?_
    refine ev_ls (L' := [some (.ref 247), some (.int a1), none]) (st' := [.int a1, .ref 247]) (pc' := 24) hk (.iload_n 1) 1 rfl rfl rfl rfl ?_
    obtain ⟨v12, hc13, hx⟩ := bnd_some hx
    refine ev_cv 187 1 [.int (b2i v12)] 27 hk rfl rfl rfl rfl lk_model rfl rfl rfl (rM_travels hc13) rfl rfl rfl rfl ?_
    refine ev_d1 60 30 hk rfl rfl rfl rfl (px_beq hx (fun hc hx => ?_) (fun hc hx => ?_))
    · refine ev_ls (L' := [some (.ref 247), some (.int (a1 + 1)), none]) (st' := []) (pc' := 63) hk (.iinc 1 1) 3 rfl rfl rfl rfl ?_
      refine ev_jp (pc' := 12) (st' := []) hk (.goto (-51)) 3 rfl rfl rfl rfl rfl ?_
      cases hx
      exact hM
    · refine ev_ls (L' := [some (.ref 247), some (.int a1), none]) (st' := [.ref 247]) (pc' := 31) hk (.aload_n 0) 1 rfl rfl rfl rfl ?_
      refine ev_gf (.ref 249) 34 hk rfl rfl lk_model rfl rfl ?_
      refine ev_ls (L' := [some (.ref 247), some (.int a1), none]) (st' := [.int a1, .ref 249]) (pc' := 35) hk (.iload_n 1) 1 rfl rfl rfl rfl ?_
      refine ev_cs 168 1 [.int (fM_spt a1), .ref 249] 38 hk rfl rfl (by decide) rfl rfl rfl (rM_spt rfl) rfl rfl rfl rfl ?_
      refine ev_op (st' := [.int 5, .int (fM_spt a1), .ref 249]) (pc' := 39) hk (.iconst 5) 1 rfl rfl rfl ?_
      refine ev_op (st' := [.int ((fM_spt a1) + 5), .ref 249]) (pc' := 40) hk (.iadd) 1 rfl rfl rfl ?_
      refine ev_op (st' := [.int ((fM_spt a1) + 5), .ref 249, .int ((fM_spt a1) + 5), .ref 249]) (pc' := 41) hk (.dup2) 1 rfl rfl rfl ?_
      obtain ⟨v14, hv14, hx⟩ := bnd_some hx
      refine ev_ial hv14 42 hk rfl lk_m249 rfl ?_
      refine ev_ls (L' := [some (.ref 247), some (.int a1), none]) (st' := [.ref 247, .int v14, .int ((fM_spt a1) + 5), .ref 249]) (pc' := 43) hk (.aload_n 0) 1 rfl rfl rfl rfl ?_
      refine ev_ls (L' := [some (.ref 247), some (.int a1), none]) (st' := [.int a1, .ref 247, .int v14, .int ((fM_spt a1) + 5), .ref 249]) (pc' := 44) hk (.iload_n 1) 1 rfl rfl rfl rfl ?_
      obtain ⟨v15, hc16, hx⟩ := bnd_some hx
      refine ev_cv 74 1 [.int v15, .int v14, .int ((fM_spt a1) + 5), .ref 249] 47 hk rfl rfl rfl rfl lk_model rfl rfl rfl (rM_hourNow hc16) rfl rfl rfl rfl ?_
      refine ev_d1 54 50 hk rfl rfl rfl rfl (px_cne hx (fun hc hx => ?_) (fun hc hx => ?_))
      · refine ev_op (st' := [.int 0, .int v14, .int ((fM_spt a1) + 5), .ref 249]) (pc' := 55) hk (.iconst 0) 1 rfl rfl rfl ?_
        exact rM_passesOne_j55 hx hM 
      · refine ev_op (st' := [.int 1, .int v14, .int ((fM_spt a1) + 5), .ref 249]) (pc' := 51) hk (.iconst 1) 1 rfl rfl rfl ?_
        refine ev_jp (pc' := 55) (st' := [.int 1, .int v14, .int ((fM_spt a1) + 5), .ref 249]) hk (.goto 4) 3 rfl rfl rfl rfl rfl ?_
        exact rM_passesOne_j55 hx hM 
set_option maxRecDepth 2000 in
theorem rM_passesOne {S : Nat} {xs : Nat → Int32} {I : zI} {C : zC} {Y : Nat → Int32} {Γ : Nat → zG} {D : zD} {O : Nat → Int32} {M : zM} {ou : Nat → Int64} {od : Nat → UInt64} {j : Nat}  {X : Int32 × zM}   (hx : fM_passesOne M = some X) : Ev S xs 150 0 [some (.ref 247), none, none] [] (zH I C Y Γ D O M ou od j) (((.inl (some (.int X.1))), (zH I C Y Γ D O X.2 ou od j)) : (Option Value ⊕ String) × px_H) := by
  generalize hM : (((.inl (some (.int X.1))), (zH I C Y Γ D O X.2 ou od j)) : (Option Value ⊕ String) × px_H) = y
  replace hM := hM.symm
  have hk : pt_mt[150]? = some pt_r150 := rfl
  unfold fM_passesOne at hx
  refine ev_ls (L' := [some (.ref 247), none, none]) (st' := [.ref 247]) (pc' := 1) hk (.aload_n 0) 1 rfl rfl rfl rfl ?_
  refine ev_gf (.ref 249) 4 hk rfl rfl lk_model rfl rfl ?_
  refine ev_op (st' := [.int 4, .ref 249]) (pc' := 5) hk (.iconst 4) 1 rfl rfl rfl ?_
  refine ev_op (st' := [.int 4, .ref 249, .int 4, .ref 249]) (pc' := 6) hk (.dup2) 1 rfl rfl rfl ?_
  refine ev_ial (v := ((mA M 249) 4)) rfl 7 hk rfl lk_m249 rfl ?_
  refine ev_op (st' := [.int 1, .int ((mA M 249) 4), .int 4, .ref 249]) (pc' := 8) hk (.iconst 1) 1 rfl rfl rfl ?_
  refine ev_op (st' := [.int (((mA M 249) 4) + 1), .int 4, .ref 249]) (pc' := 9) hk (.iadd) 1 rfl rfl rfl ?_
  obtain ⟨M24, hM24, hx⟩ := bnd_some hx
  have hM24 := Option.some.inj hM24
  refine ev_ias (A := (upd (mA M 249) 4 (((mA M 249) 4) + 1))) rfl 10 hk rfl lk_m249 (sa_m249 hM24) rfl ?_
  refine ev_op (st' := [.int 0]) (pc' := 11) hk (.iconst 0) 1 rfl rfl rfl ?_
  refine ev_ls (L' := [some (.ref 247), some (.int 0), none]) (st' := []) (pc' := 12) hk (.istore_n 1) 1 rfl rfl rfl rfl ?_
  exact ev_iter (qM_passesOne_12 S xs I C Y Γ D O ou od j _) (fun X : Int32 × zM => y = (((.inl (some (.int X.1))), (zH I C Y Γ D O X.2 ou od j)) : (Option Value ⊕ String) × px_H)) (fun s x hb hM => rM_passesOne_b12 hb hM) fu _ _ hx hM 
def qM_passes_4 (S : Nat) (xs : Nat → Int32) (I : zI) (C : zC) (Y : Nat → Int32) (Γ : Nat → zG) (D : zD) (O : Nat → Int32) (ou : Nat → Int64) (od : Nat → UInt64) (j : Nat) (a1 : Int32) (y : (Option Value ⊕ String) × px_H) (s : zM × Int32 × Int32) : Prop := Ev S xs 149 4 [some (.ref 247), some (.int a1), some (.int s.2.1), some (.int s.2.2)] [] (zH I C Y Γ D O s.1 ou od j) y
set_option maxRecDepth 4000 in
theorem rM_passes_b4 {S : Nat} {xs : Nat → Int32} {I : zI} {C : zC} {Y : Nat → Int32} {Γ : Nat → zG} {D : zD} {O : Nat → Int32} {ou : Nat → Int64} {od : Nat → UInt64} {j : Nat} {a1 : Int32} {y : (Option Value ⊕ String) × px_H} {s : zM × Int32 × Int32} {x : (zM × Int32 × Int32) ⊕ (Int32 × zM)}  (hx : fM_passes_b4 a1 s.1 s.2.1 s.2.2 = some x) (hM : (Sum.elim (qM_passes_4 S xs I C Y Γ D O ou od j a1 y) (fun X : Int32 × zM => y = (((.inl (some (.int X.1))), (zH I C Y Γ D O X.2 ou od j)) : (Option Value ⊕ String) × px_H))) x) : qM_passes_4 S xs I C Y Γ D O ou od j a1 y s := by
  obtain ⟨M, a2, a3⟩ := s
  have hk : pt_mt[149]? = some pt_r149 := rfl
  unfold fM_passes_b4 at hx
  try dsimp only at hx
  refine ev_ls (L' := [some (.ref 247), some (.int a1), some (.int a2), some (.int a3)]) (st' := [.int a3]) (pc' := 5) hk (.iload_n 3) 1 rfl rfl rfl rfl ?_
  refine ev_ls (L' := [some (.ref 247), some (.int a1), some (.int a2), some (.int a3)]) (st' := [.int a1, .int a3]) (pc' := 6) hk (.iload_n 1) 1 rfl rfl rfl rfl ?_
  refine ev_d2 22 9 hk rfl rfl rfl rfl (px_cge hx (fun hc hx => ?_) (fun hc hx => ?_))
  · refine ev_ls (L' := [some (.ref 247), some (.int a1), some (.int a2), some (.int a3)]) (st' := [.int a2]) (pc' := 23) hk (.iload_n 2) 1 rfl rfl rfl rfl ?_
    cases hx
    obtain rfl := hM
    exact ev_retI hk rfl rfl
  · refine ev_ls (L' := [some (.ref 247), some (.int a1), some (.int a2), some (.int a3)]) (st' := [.int a2]) (pc' := 10) hk (.iload_n 2) 1 rfl rfl rfl rfl ?_
    refine ev_ls (L' := [some (.ref 247), some (.int a1), some (.int a2), some (.int a3)]) (st' := [.ref 247, .int a2]) (pc' := 11) hk (.aload_n 0) 1 rfl rfl rfl rfl ?_
    obtain ⟨v2, M1, hc3, hx⟩ := bnd2_some hx
    refine ev_cv 150 0 [.int v2, .int a2] 14 hk rfl rfl rfl rfl lk_model rfl rfl rfl (rM_passesOne hc3) rfl rfl rfl rfl ?_
    refine ev_op (st' := [.int (a2 + v2)]) (pc' := 15) hk (.iadd) 1 rfl rfl rfl ?_
    refine ev_ls (L' := [some (.ref 247), some (.int a1), some (.int (a2 + v2)), some (.int a3)]) (st' := []) (pc' := 16) hk (.istore_n 2) 1 rfl rfl rfl rfl ?_
    refine ev_ls (L' := [some (.ref 247), some (.int a1), some (.int (a2 + v2)), some (.int (a3 + 1))]) (st' := []) (pc' := 19) hk (.iinc 3 1) 3 rfl rfl rfl rfl ?_
    refine ev_jp (pc' := 4) (st' := []) hk (.goto (-15)) 3 rfl rfl rfl rfl rfl ?_
    cases hx
    exact hM
set_option maxRecDepth 2000 in
theorem rM_passes {S : Nat} {xs : Nat → Int32} {I : zI} {C : zC} {Y : Nat → Int32} {Γ : Nat → zG} {D : zD} {O : Nat → Int32} {M : zM} {ou : Nat → Int64} {od : Nat → UInt64} {j : Nat} {a1 : Int32} {X : Int32 × zM}   (hx : fM_passes M a1 = some X) : Ev S xs 149 0 [some (.ref 247), some (.int a1), none, none] [] (zH I C Y Γ D O M ou od j) (((.inl (some (.int X.1))), (zH I C Y Γ D O X.2 ou od j)) : (Option Value ⊕ String) × px_H) := by
  generalize hM : (((.inl (some (.int X.1))), (zH I C Y Γ D O X.2 ou od j)) : (Option Value ⊕ String) × px_H) = y
  replace hM := hM.symm
  have hk : pt_mt[149]? = some pt_r149 := rfl
  unfold fM_passes at hx
  refine ev_op (st' := [.int 0]) (pc' := 1) hk (.iconst 0) 1 rfl rfl rfl ?_
  refine ev_ls (L' := [some (.ref 247), some (.int a1), some (.int 0), none]) (st' := []) (pc' := 2) hk (.istore_n 2) 1 rfl rfl rfl rfl ?_
  refine ev_op (st' := [.int 0]) (pc' := 3) hk (.iconst 0) 1 rfl rfl rfl ?_
  refine ev_ls (L' := [some (.ref 247), some (.int a1), some (.int 0), some (.int 0)]) (st' := []) (pc' := 4) hk (.istore_n 3) 1 rfl rfl rfl rfl ?_
  exact ev_iter (qM_passes_4 S xs I C Y Γ D O ou od j a1 _) (fun X : Int32 × zM => y = (((.inl (some (.int X.1))), (zH I C Y Γ D O X.2 ou od j)) : (Option Value ⊕ String) × px_H)) (fun s x hb hM => rM_passes_b4 hb hM) fu _ _ hx hM 
def qM_keeps_21 (S : Nat) (xs : Nat → Int32) (I : zI) (C : zC) (Y : Nat → Int32) (Γ : Nat → zG) (D : zD) (O : Nat → Int32) (ou : Nat → Int64) (od : Nat → UInt64) (j : Nat) (y : (Option Value ⊕ String) × px_H) (s : zM × Int32) : Prop := Ev S xs 104 21 [some (.ref 247), some (.int s.2)] [] (zH I C Y Γ D O s.1 ou od j) y
set_option maxRecDepth 4000 in
theorem rM_keeps_j55 {S : Nat} {xs : Nat → Int32} {I : zI} {C : zC} {Y : Nat → Int32} {Γ : Nat → zG} {D : zD} {O : Nat → Int32} {M : zM} {ou : Nat → Int64} {od : Nat → UInt64} {j : Nat}  {y : (Option Value ⊕ String) × px_H} {x : zM}  (hx : fM_keeps_j55 M = some x) (hM : (fun X : zM => y = (((.inl none), (zH I C Y Γ D O X ou od j)) : (Option Value ⊕ String) × px_H)) x) (u1 : Option Value) (hu1 : px_cz u1 = true) : Ev S xs 104 55 [some (.ref 247), u1] [] (zH I C Y Γ D O M ou od j) y := by
  have hk : pt_mt[104]? = some pt_r104 := rfl
  unfold fM_keeps_j55 at hx
  refine ev_ls (L' := [some (.ref 247), u1]) (st' := [.ref 247]) (pc' := 56) hk (.aload_n 0) 1 rfl rfl rfl rfl ?_
  refine ev_gf (.ref 251) 59 hk rfl rfl lk_model rfl rfl ?_
  refine ev_op (st' := [.int 0, .ref 251]) (pc' := 60) hk (.iconst 0) 1 rfl rfl rfl ?_
  refine ev_ls (L' := [some (.ref 247), u1]) (st' := [.ref 247, .int 0, .ref 251]) (pc' := 61) hk (.aload_n 0) 1 rfl rfl rfl rfl ?_
  refine ev_gf (.ref 253) 64 hk rfl rfl lk_model rfl rfl ?_
  refine ev_op (st' := [.int 160, .ref 253, .int 0, .ref 251]) (pc' := 67) hk (.sipush 160) 3 rfl rfl rfl ?_
  refine ev_ls (L' := [some (.ref 247), u1]) (st' := [.ref 247, .int 160, .ref 253, .int 0, .ref 251]) (pc' := 68) hk (.aload_n 0) 1 rfl rfl rfl rfl ?_
  refine ev_gf (.int (mF M 18)) 71 hk rfl rfl lk_model rfl rfl ?_
  refine ev_op (st' := [.int (160 * (mF M 18)), .ref 253, .int 0, .ref 251]) (pc' := 72) hk (.imul) 1 rfl rfl rfl ?_
  obtain ⟨M9, hc10, hx⟩ := bnd_some hx
  refine ev_cs 37 4 [] 75 hk rfl rfl (by decide) rfl rfl rfl (rM_copiesRow (ma_251) (ma_253) hc10) rfl rfl rfl rfl ?_
  refine ev_ls (L' := [some (.ref 247), u1]) (st' := [.ref 247]) (pc' := 76) hk (.aload_n 0) 1 rfl rfl rfl rfl ?_
  refine ev_op (st' := [.ref 247, .ref 247]) (pc' := 77) hk (.dup) 1 rfl rfl rfl ?_
  refine ev_gf (.int (mF M9 18)) 80 hk rfl rfl lk_model rfl rfl ?_
  refine ev_op (st' := [.int 1, .int (mF M9 18), .ref 247]) (pc' := 81) hk (.iconst 1) 1 rfl rfl rfl ?_
  refine ev_op (st' := [.int ((mF M9 18) + 1), .ref 247]) (pc' := 82) hk (.iadd) 1 rfl rfl rfl ?_
  obtain ⟨M11, hM11, hx⟩ := bnd_some hx
  have hM11 := Option.some.inj hM11
  refine ev_pf 85 hk rfl rfl lk_model rfl rfl rfl (sf_8_18 hM11) rfl ?_
  cases hx
  obtain rfl := hM
  exact ev_retv hk rfl rfl
set_option maxRecDepth 4000 in
theorem rM_keeps_b21 {S : Nat} {xs : Nat → Int32} {I : zI} {C : zC} {Y : Nat → Int32} {Γ : Nat → zG} {D : zD} {O : Nat → Int32} {ou : Nat → Int64} {od : Nat → UInt64} {j : Nat}  {y : (Option Value ⊕ String) × px_H} {s : zM × Int32} {x : (zM × Int32) ⊕ (zM)}  (hx : fM_keeps_b21 s.1 s.2 = some x) (hM : (Sum.elim (qM_keeps_21 S xs I C Y Γ D O ou od j y) (fun X : zM => y = (((.inl none), (zH I C Y Γ D O X ou od j)) : (Option Value ⊕ String) × px_H))) x) : qM_keeps_21 S xs I C Y Γ D O ou od j y s := by
  obtain ⟨M, a1⟩ := s
  have hk : pt_mt[104]? = some pt_r104 := rfl
  unfold fM_keeps_b21 at hx
  try dsimp only at hx
  refine ev_ls (L' := [some (.ref 247), some (.int a1)]) (st' := [.int a1]) (pc' := 22) hk (.iload_n 1) 1 rfl rfl rfl rfl ?_
  refine ev_op (st' := [.int 160, .int a1]) (pc' := 25) hk (.sipush 160) 3 rfl rfl rfl ?_
  refine ev_ls (L' := [some (.ref 247), some (.int a1)]) (st' := [.ref 247, .int 160, .int a1]) (pc' := 26) hk (.aload_n 0) 1 rfl rfl rfl rfl ?_
  refine ev_gf (.int (mF M 18)) 29 hk rfl rfl lk_model rfl rfl ?_
  refine ev_op (st' := [.int (160 * (mF M 18)), .int a1]) (pc' := 30) hk (.imul) 1 rfl rfl rfl ?_
  refine ev_d2 55 33 hk rfl rfl rfl rfl (px_cge hx (fun hc hx => ?_) (fun hc hx => ?_))
  · obtain ⟨X, hx2, hX⟩ := Option.map_eq_some_iff.mp hx
    clear hx; subst hX; have hx := hx2; clear hx2
    exact rM_keeps_j55 hx hM (some (.int a1)) rfl
  · refine ev_ls (L' := [some (.ref 247), some (.int a1)]) (st' := [.ref 247]) (pc' := 34) hk (.aload_n 0) 1 rfl rfl rfl rfl ?_
    refine ev_gf (.ref 253) 37 hk rfl rfl lk_model rfl rfl ?_
    refine ev_ls (L' := [some (.ref 247), some (.int a1)]) (st' := [.int a1, .ref 253]) (pc' := 38) hk (.iload_n 1) 1 rfl rfl rfl rfl ?_
    refine ev_ls (L' := [some (.ref 247), some (.int a1)]) (st' := [.ref 247, .int a1, .ref 253]) (pc' := 39) hk (.aload_n 0) 1 rfl rfl rfl rfl ?_
    refine ev_gf (.ref 253) 42 hk rfl rfl lk_model rfl rfl ?_
    refine ev_ls (L' := [some (.ref 247), some (.int a1)]) (st' := [.int a1, .ref 253, .int a1, .ref 253]) (pc' := 43) hk (.iload_n 1) 1 rfl rfl rfl rfl ?_
    refine ev_op (st' := [.int 160, .int a1, .ref 253, .int a1, .ref 253]) (pc' := 46) hk (.sipush 160) 3 rfl rfl rfl ?_
    refine ev_op (st' := [.int (a1 + 160), .ref 253, .int a1, .ref 253]) (pc' := 47) hk (.iadd) 1 rfl rfl rfl ?_
    obtain ⟨v12, hv12, hx⟩ := bnd_some hx
    refine ev_ial hv12 48 hk rfl lk_m253 rfl ?_
    obtain ⟨A13, hA13, hx⟩ := bnd_some hx
    obtain ⟨M14, hM14, hx⟩ := bnd_some hx
    have hM14 := Option.some.inj hM14
    refine ev_ias hA13 49 hk rfl lk_m253 (sa_m253 hM14) rfl ?_
    refine ev_ls (L' := [some (.ref 247), some (.int (a1 + 1))]) (st' := []) (pc' := 52) hk (.iinc 1 1) 3 rfl rfl rfl rfl ?_
    refine ev_jp (pc' := 21) (st' := []) hk (.goto (-31)) 3 rfl rfl rfl rfl rfl ?_
    cases hx
    exact hM
set_option maxRecDepth 2000 in
theorem rM_keeps {S : Nat} {xs : Nat → Int32} {I : zI} {C : zC} {Y : Nat → Int32} {Γ : Nat → zG} {D : zD} {O : Nat → Int32} {M : zM} {ou : Nat → Int64} {od : Nat → UInt64} {j : Nat}  {X : zM}   (hx : fM_keeps M = some X) : Ev S xs 104 0 [some (.ref 247), none] [] (zH I C Y Γ D O M ou od j) (((.inl none), (zH I C Y Γ D O X ou od j)) : (Option Value ⊕ String) × px_H) := by
  generalize hM : (((.inl none), (zH I C Y Γ D O X ou od j)) : (Option Value ⊕ String) × px_H) = y
  replace hM := hM.symm
  have hk : pt_mt[104]? = some pt_r104 := rfl
  unfold fM_keeps at hx
  refine ev_ls (L' := [some (.ref 247), none]) (st' := [.ref 247]) (pc' := 1) hk (.aload_n 0) 1 rfl rfl rfl rfl ?_
  refine ev_gf (.int (mF M 18)) 4 hk rfl rfl lk_model rfl rfl ?_
  refine ev_op (st' := [.int 6, .int (mF M 18)]) (pc' := 6) hk (.bipush 6) 2 rfl rfl rfl ?_
  refine ev_d2 55 9 hk rfl rfl rfl rfl (px_cne hx (fun hc hx => ?_) (fun hc hx => ?_))
  · exact rM_keeps_j55 hx hM none rfl
  · refine ev_ls (L' := [some (.ref 247), none]) (st' := [.ref 247]) (pc' := 10) hk (.aload_n 0) 1 rfl rfl rfl rfl ?_
    refine ev_op (st' := [.ref 247, .ref 247]) (pc' := 11) hk (.dup) 1 rfl rfl rfl ?_
    refine ev_gf (.int (mF M 18)) 14 hk rfl rfl lk_model rfl rfl ?_
    refine ev_op (st' := [.int 1, .int (mF M 18), .ref 247]) (pc' := 15) hk (.iconst 1) 1 rfl rfl rfl ?_
    refine ev_op (st' := [.int ((mF M 18) - 1), .ref 247]) (pc' := 16) hk (.isub) 1 rfl rfl rfl ?_
    obtain ⟨M15, hM15, hx⟩ := bnd_some hx
    have hM15 := Option.some.inj hM15
    refine ev_pf 19 hk rfl rfl lk_model rfl rfl rfl (sf_8_18 hM15) rfl ?_
    refine ev_op (st' := [.int 0]) (pc' := 20) hk (.iconst 0) 1 rfl rfl rfl ?_
    refine ev_ls (L' := [some (.ref 247), some (.int 0)]) (st' := []) (pc' := 21) hk (.istore_n 1) 1 rfl rfl rfl rfl ?_
    exact ev_iter (qM_keeps_21 S xs I C Y Γ D O ou od j _) (fun X : zM => y = (((.inl none), (zH I C Y Γ D O X ou od j)) : (Option Value ⊕ String) × px_H)) (fun s x hb hM => rM_keeps_b21 hb hM) fu _ _ hx hM 
set_option maxRecDepth 2000 in
theorem rM_kept {S : Nat} {xs : Nat → Int32} {I : zI} {C : zC} {Y : Nat → Int32} {Γ : Nat → zG} {D : zD} {O : Nat → Int32} {M : zM} {ou : Nat → Int64} {od : Nat → UInt64} {j : Nat} {a1 : Int32} {X : Int32 × zM}   (hx : fM_kept M a1 = some X) : Ev S xs 105 0 [some (.ref 247), some (.int a1)] [] (zH I C Y Γ D O M ou od j) (((.inl (some (.int X.1))), (zH I C Y Γ D O X.2 ou od j)) : (Option Value ⊕ String) × px_H) := by
  generalize hM : (((.inl (some (.int X.1))), (zH I C Y Γ D O X.2 ou od j)) : (Option Value ⊕ String) × px_H) = y
  replace hM := hM.symm
  have hk : pt_mt[105]? = some pt_r105 := rfl
  unfold fM_kept at hx
  refine ev_ls (L' := [some (.ref 247), some (.int a1)]) (st' := [.ref 247]) (pc' := 1) hk (.aload_n 0) 1 rfl rfl rfl rfl ?_
  obtain ⟨M1, hc2, hx⟩ := bnd_some hx
  refine ev_cv 104 0 [] 4 hk rfl rfl rfl rfl lk_model rfl rfl rfl (rM_keeps hc2) rfl rfl rfl rfl ?_
  refine ev_ls (L' := [some (.ref 247), some (.int a1)]) (st' := [.int a1]) (pc' := 5) hk (.iload_n 1) 1 rfl rfl rfl rfl ?_
  cases hx
  obtain rfl := hM
  exact ev_retI hk rfl rfl
set_option maxRecDepth 2000 in
theorem rM_pass {S : Nat} {xs : Nat → Int32} {I : zI} {C : zC} {Y : Nat → Int32} {Γ : Nat → zG} {D : zD} {O : Nat → Int32} {M : zM} {ou : Nat → Int64} {od : Nat → UInt64} {j : Nat} {a1 : Int32} {X : Int32 × zM}   (hx : fM_pass M a1 = some X) : Ev S xs 147 0 [some (.ref 247), some (.int a1)] [] (zH I C Y Γ D O M ou od j) (((.inl (some (.int X.1))), (zH I C Y Γ D O X.2 ou od j)) : (Option Value ⊕ String) × px_H) := by
  generalize hM : (((.inl (some (.int X.1))), (zH I C Y Γ D O X.2 ou od j)) : (Option Value ⊕ String) × px_H) = y
  replace hM := hM.symm
  have hk : pt_mt[147]? = some pt_r147 := rfl
  unfold fM_pass at hx
  refine ev_ls (L' := [some (.ref 247), some (.int a1)]) (st' := [.ref 247]) (pc' := 1) hk (.aload_n 0) 1 rfl rfl rfl rfl ?_
  refine ev_ls (L' := [some (.ref 247), some (.int a1)]) (st' := [.int a1, .ref 247]) (pc' := 2) hk (.iload_n 1) 1 rfl rfl rfl rfl ?_
  refine ev_cs 23 1 [.int (b2i (fM_areHours a1)), .ref 247] 5 hk rfl rfl (by decide) rfl rfl rfl (rM_areHours rfl) rfl rfl rfl rfl ?_
  obtain ⟨v2, M1, hc3, hx⟩ := bnd2_some hx
  refine ev_cv 59 1 [.int (b2i v2)] 8 hk rfl rfl rfl rfl lk_model rfl rfl rfl (rM_goes hc3) rfl rfl rfl rfl ?_
  refine ev_d1 13 11 hk rfl rfl rfl rfl (px_bne hx (fun hc hx => ?_) (fun hc hx => ?_))
  · refine ev_ls (L' := [some (.ref 247), some (.int a1)]) (st' := [.ref 247]) (pc' := 14) hk (.aload_n 0) 1 rfl rfl rfl rfl ?_
    obtain ⟨M4, hc5, hx⟩ := bnd_some hx
    refine ev_cv 117 0 [] 17 hk rfl rfl rfl rfl lk_model rfl rfl rfl (rM_laysAside hc5) rfl rfl rfl rfl ?_
    refine ev_ls (L' := [some (.ref 247), some (.int a1)]) (st' := [.ref 247]) (pc' := 18) hk (.aload_n 0) 1 rfl rfl rfl rfl ?_
    refine ev_ls (L' := [some (.ref 247), some (.int a1)]) (st' := [.ref 247, .ref 247]) (pc' := 19) hk (.aload_n 0) 1 rfl rfl rfl rfl ?_
    refine ev_ls (L' := [some (.ref 247), some (.int a1)]) (st' := [.int a1, .ref 247, .ref 247]) (pc' := 20) hk (.iload_n 1) 1 rfl rfl rfl rfl ?_
    obtain ⟨v7, M6, hc8, hx⟩ := bnd2_some hx
    refine ev_cv 149 1 [.int v7, .ref 247] 23 hk rfl rfl rfl rfl lk_model rfl rfl rfl (rM_passes hc8) rfl rfl rfl rfl ?_
    obtain ⟨v10, M9, hc11, hx⟩ := bnd2_some hx
    refine ev_cv 105 1 [.int v10] 26 hk rfl rfl rfl rfl lk_model rfl rfl rfl (rM_kept hc11) rfl rfl rfl rfl ?_
    cases hx
    obtain rfl := hM
    exact ev_retI hk rfl rfl
  · refine ev_op (st' := [.int 0]) (pc' := 12) hk (.iconst 0) 1 rfl rfl rfl ?_
    cases hx
    obtain rfl := hM
    exact ev_retI hk rfl rfl
set_option maxRecDepth 2000 in
theorem rG_hasSpot {S : Nat} {xs : Nat → Int32} {I : zI} {C : zC} {Y : Nat → Int32} {Γ : Nat → zG} {D : zD} {O : Nat → Int32} {M : zM} {ou : Nat → Int64} {od : Nat → UInt64} {j : Nat} {g : Nat} {G : zG} {a1 : Int32} {X : Bool}  (hg : isG g) (hx : fG_hasSpot G a1 = X) : Ev S xs 224 0 [some (.ref g), some (.int a1)] [] (zH I C Y (gup Γ g G) D O M ou od j) (((.inl (some (.int (b2i X)))), (zH I C Y (gup Γ g G) D O M ou od j)) : (Option Value ⊕ String) × px_H) := by
  generalize hM : (((.inl (some (.int (b2i X)))), (zH I C Y (gup Γ g G) D O M ou od j)) : (Option Value ⊕ String) × px_H) = y
  replace hM := hM.symm
  have hk : pt_mt[224]? = some pt_r224 := rfl
  unfold fG_hasSpot at hx
  refine ev_ls (L' := [some (.ref g), some (.int a1)]) (st' := [.int a1]) (pc' := 1) hk (.iload_n 1) 1 rfl rfl rfl rfl ?_
  refine ev_d1 16 4 hk rfl rfl rfl rfl (px_clt hx (fun hc hx => ?_) (fun hc hx => ?_))
  · refine ev_op (st' := [.int 0]) (pc' := 17) hk (.iconst 0) 1 rfl rfl rfl ?_
    cases hx
    obtain rfl := hM
    exact ev_retZ false rfl hk rfl rfl
  · refine ev_ls (L' := [some (.ref g), some (.int a1)]) (st' := [.int a1]) (pc' := 5) hk (.iload_n 1) 1 rfl rfl rfl rfl ?_
    refine ev_ls (L' := [some (.ref g), some (.int a1)]) (st' := [.ref g, .int a1]) (pc' := 6) hk (.aload_n 0) 1 rfl rfl rfl rfl ?_
    refine ev_gf (.int (gF G 0 4)) 9 hk rfl rfl (lk_globe hg gup_same) rfl rfl ?_
    refine ev_d2 16 12 hk rfl rfl rfl rfl (px_cge hx (fun hc hx => ?_) (fun hc hx => ?_))
    · refine ev_op (st' := [.int 0]) (pc' := 17) hk (.iconst 0) 1 rfl rfl rfl ?_
      cases hx
      obtain rfl := hM
      exact ev_retZ false rfl hk rfl rfl
    · refine ev_op (st' := [.int 1]) (pc' := 13) hk (.iconst 1) 1 rfl rfl rfl ?_
      refine ev_jp (pc' := 17) (st' := [.int 1]) hk (.goto 4) 3 rfl rfl rfl rfl rfl ?_
      cases hx
      obtain rfl := hM
      exact ev_retZ true rfl hk rfl rfl
set_option maxRecDepth 2000 in
theorem rX_isDirection {S : Nat} {xs : Nat → Int32} {I : zI} {C : zC} {Y : Nat → Int32} {Γ : Nat → zG} {D : zD} {O : Nat → Int32} {M : zM} {ou : Nat → Int64} {od : Nat → UInt64} {j : Nat} {a0 : Int32} {X : Bool}   (hx : fX_isDirection a0 = X) : Ev S xs 322 0 [some (.int a0)] [] (zH I C Y Γ D O M ou od j) (((.inl (some (.int (b2i X)))), (zH I C Y Γ D O M ou od j)) : (Option Value ⊕ String) × px_H) := by
  generalize hM : (((.inl (some (.int (b2i X)))), (zH I C Y Γ D O M ou od j)) : (Option Value ⊕ String) × px_H) = y
  replace hM := hM.symm
  have hk : pt_mt[322]? = some pt_r322 := rfl
  unfold fX_isDirection at hx
  refine ev_ls (L' := [some (.int a0)]) (st' := [.int a0]) (pc' := 1) hk (.iload_n 0) 1 rfl rfl rfl rfl ?_
  refine ev_d1 9 4 hk rfl rfl rfl rfl (px_ceq hx (fun hc hx => ?_) (fun hc hx => ?_))
  · refine ev_op (st' := [.int 1]) (pc' := 10) hk (.iconst 1) 1 rfl rfl rfl ?_
    refine ev_jp (pc' := 14) (st' := [.int 1]) hk (.goto 4) 3 rfl rfl rfl rfl rfl ?_
    cases hx
    obtain rfl := hM
    exact ev_retZ true rfl hk rfl rfl
  · refine ev_ls (L' := [some (.int a0)]) (st' := [.int a0]) (pc' := 5) hk (.iload_n 0) 1 rfl rfl rfl rfl ?_
    refine ev_op (st' := [.int 1, .int a0]) (pc' := 6) hk (.iconst 1) 1 rfl rfl rfl ?_
    refine ev_d2 13 9 hk rfl rfl rfl rfl (px_cne hx (fun hc hx => ?_) (fun hc hx => ?_))
    · refine ev_op (st' := [.int 0]) (pc' := 14) hk (.iconst 0) 1 rfl rfl rfl ?_
      cases hx
      obtain rfl := hM
      exact ev_retZ false rfl hk rfl rfl
    · refine ev_op (st' := [.int 1]) (pc' := 10) hk (.iconst 1) 1 rfl rfl rfl ?_
      refine ev_jp (pc' := 14) (st' := [.int 1]) hk (.goto 4) 3 rfl rfl rfl rfl rfl ?_
      cases hx
      obtain rfl := hM
      exact ev_retZ true rfl hk rfl rfl
set_option maxRecDepth 2000 in
theorem rG_walkRefusal {S : Nat} {xs : Nat → Int32} {I : zI} {C : zC} {Y : Nat → Int32} {Γ : Nat → zG} {D : zD} {O : Nat → Int32} {M : zM} {ou : Nat → Int64} {od : Nat → UInt64} {j : Nat} {g : Nat} {G : zG} {a1 : Int32} {a2 : Int32} {a3 : Int32} {X : Int32}  (hg : isG g) (hx : fG_walkRefusal G a1 a2 a3 = some X) : Ev S xs 256 0 [some (.ref g), some (.int a1), some (.int a2), some (.int a3)] [] (zH I C Y (gup Γ g G) D O M ou od j) (((.inl (some (.int X))), (zH I C Y (gup Γ g G) D O M ou od j)) : (Option Value ⊕ String) × px_H) := by
  generalize hM : (((.inl (some (.int X))), (zH I C Y (gup Γ g G) D O M ou od j)) : (Option Value ⊕ String) × px_H) = y
  replace hM := hM.symm
  have hk : pt_mt[256]? = some pt_r256 := rfl
  unfold fG_walkRefusal at hx
  refine ev_ls (L' := [some (.ref g), some (.int a1), some (.int a2), some (.int a3)]) (st' := [.ref g]) (pc' := 1) hk (.aload_n 0) 1 rfl rfl rfl rfl ?_
  refine ev_ls (L' := [some (.ref g), some (.int a1), some (.int a2), some (.int a3)]) (st' := [.int a1, .ref g]) (pc' := 2) hk (.iload_n 1) 1 rfl rfl rfl rfl ?_
  refine ev_cv 224 1 [.int (b2i (fG_hasSpot G a1))] 5 hk rfl rfl rfl rfl (lk_globe hg gup_same) rfl rfl rfl (rG_hasSpot hg rfl) rfl rfl rfl rfl ?_
  refine ev_d1 10 8 hk rfl rfl rfl rfl (px_bne hx (fun hc hx => ?_) (fun hc hx => ?_))
  · refine ev_ls (L' := [some (.ref g), some (.int a1), some (.int a2), some (.int a3)]) (st' := [.int a2]) (pc' := 11) hk (.iload_n 2) 1 rfl rfl rfl rfl ?_
    refine ev_cs 322 1 [.int (b2i (fX_isDirection a2))] 14 hk rfl rfl (by decide) rfl rfl rfl (rX_isDirection rfl) rfl rfl rfl rfl ?_
    refine ev_d1 28 17 hk rfl rfl rfl rfl (px_beq hx (fun hc hx => ?_) (fun hc hx => ?_))
    · refine ev_op (st' := [.int 2]) (pc' := 29) hk (.iconst 2) 1 rfl rfl rfl ?_
      cases hx
      obtain rfl := hM
      exact ev_retI hk rfl rfl
    · refine ev_ls (L' := [some (.ref g), some (.int a1), some (.int a2), some (.int a3)]) (st' := [.int a3]) (pc' := 18) hk (.iload_n 3) 1 rfl rfl rfl rfl ?_
      refine ev_d1 28 21 hk rfl rfl rfl rfl (px_clt hx (fun hc hx => ?_) (fun hc hx => ?_))
      · refine ev_op (st' := [.int 2]) (pc' := 29) hk (.iconst 2) 1 rfl rfl rfl ?_
        cases hx
        obtain rfl := hM
        exact ev_retI hk rfl rfl
      · refine ev_ls (L' := [some (.ref g), some (.int a1), some (.int a2), some (.int a3)]) (st' := [.int a3]) (pc' := 22) hk (.iload_n 3) 1 rfl rfl rfl rfl ?_
        refine ev_op (st' := [.int 359, .int a3]) (pc' := 25) hk (.sipush 359) 3 rfl rfl rfl ?_
        refine ev_d2 30 28 hk rfl rfl rfl rfl (px_cle hx (fun hc hx => ?_) (fun hc hx => ?_))
        · refine ev_ls (L' := [some (.ref g), some (.int a1), some (.int a2), some (.int a3)]) (st' := [.ref g]) (pc' := 31) hk (.aload_n 0) 1 rfl rfl rfl rfl ?_
          refine ev_gf (.ref (g + 6)) 34 hk rfl rfl (lk_globe hg gup_same) rfl rfl ?_
          refine ev_ls (L' := [some (.ref g), some (.int a1), some (.int a2), some (.int a3)]) (st' := [.int a1, .ref (g + 6)]) (pc' := 35) hk (.iload_n 1) 1 rfl rfl rfl rfl ?_
          obtain ⟨p2, hp2, hx⟩ := bnd_some hx
          have hpp2 := rix_lt hp2
          refine ev_aal (g + (7 + p2)) hp2 36 hk rfl (lk_spots hg gup_same) (by decide) (lk_sp hpp2) rfl ?_
          refine ev_gf (.int (b2i (gB G (7 + p2)))) 39 hk rfl rfl (lk_spot hg hpp2 gup_same) rfl rfl ?_
          refine ev_d1 46 42 hk rfl rfl rfl rfl (px_beq hx (fun hc hx => ?_) (fun hc hx => ?_))
          · refine ev_op (st' := [.int 3]) (pc' := 47) hk (.iconst 3) 1 rfl rfl rfl ?_
            cases hx
            obtain rfl := hM
            exact ev_retI hk rfl rfl
          · refine ev_op (st' := [.int 0]) (pc' := 43) hk (.iconst 0) 1 rfl rfl rfl ?_
            refine ev_jp (pc' := 47) (st' := [.int 0]) hk (.goto 4) 3 rfl rfl rfl rfl rfl ?_
            cases hx
            obtain rfl := hM
            exact ev_retI hk rfl rfl
        · refine ev_op (st' := [.int 2]) (pc' := 29) hk (.iconst 2) 1 rfl rfl rfl ?_
          cases hx
          obtain rfl := hM
          exact ev_retI hk rfl rfl
  · refine ev_op (st' := [.int 1]) (pc' := 9) hk (.iconst 1) 1 rfl rfl rfl ?_
    cases hx
    obtain rfl := hM
    exact ev_retI hk rfl rfl
set_option maxRecDepth 2000 in
theorem rP_setOut {S : Nat} {xs : Nat → Int32} {I : zI} {C : zC} {Y : Nat → Int32} {Γ : Nat → zG} {D : zD} {O : Nat → Int32} {M : zM} {ou : Nat → Int64} {od : Nat → UInt64} {j : Nat} {g : Nat} {G : zG} {p0 : Nat} {a1 : Int32} {a2 : Int32} {X : Int32 × zG}  (hg : isG g) (hp0 : p0 < 10) (hx : fP_setOut G p0 a1 a2 = some X) : Ev S xs 297 0 [some (.ref (g + (7 + p0))), some (.int a1), some (.int a2), none] [] (zH I C Y (gup Γ g G) D O M ou od j) (((.inl (some (.int X.1))), (zH I C Y (gup Γ g X.2) D O M ou od j)) : (Option Value ⊕ String) × px_H) := by
  generalize hM : (((.inl (some (.int X.1))), (zH I C Y (gup Γ g X.2) D O M ou od j)) : (Option Value ⊕ String) × px_H) = y
  replace hM := hM.symm
  have hk : pt_mt[297]? = some pt_r297 := rfl
  unfold fP_setOut at hx
  refine ev_ls (L' := [some (.ref (g + (7 + p0))), some (.int a1), some (.int a2), none]) (st' := [.ref (g + (7 + p0))]) (pc' := 1) hk (.aload_n 0) 1 rfl rfl rfl rfl ?_
  refine ev_gf (.int (gF G (7 + p0) 6)) 4 hk rfl rfl (lk_spot hg hp0 gup_same) rfl rfl ?_
  refine ev_ls (L' := [some (.ref (g + (7 + p0))), some (.int a1), some (.int a2), some (.int (gF G (7 + p0) 6))]) (st' := []) (pc' := 5) hk (.istore_n 3) 1 rfl rfl rfl rfl ?_
  refine ev_ls (L' := [some (.ref (g + (7 + p0))), some (.int a1), some (.int a2), some (.int (gF G (7 + p0) 6))]) (st' := [.ref (g + (7 + p0))]) (pc' := 6) hk (.aload_n 0) 1 rfl rfl rfl rfl ?_
  refine ev_ls (L' := [some (.ref (g + (7 + p0))), some (.int a1), some (.int a2), some (.int (gF G (7 + p0) 6))]) (st' := [.int a1, .ref (g + (7 + p0))]) (pc' := 7) hk (.iload_n 1) 1 rfl rfl rfl rfl ?_
  obtain ⟨G3, hG3, hx⟩ := bnd_some hx
  have hG3 := Option.some.inj hG3
  refine ev_pf 10 hk rfl rfl (lk_spot hg hp0 gup_same) rfl rfl rfl (sf_6_5 hg hp0 gup_same hG3 gup_gup) rfl ?_
  refine ev_ls (L' := [some (.ref (g + (7 + p0))), some (.int a1), some (.int a2), some (.int (gF G (7 + p0) 6))]) (st' := [.ref (g + (7 + p0))]) (pc' := 11) hk (.aload_n 0) 1 rfl rfl rfl rfl ?_
  refine ev_ls (L' := [some (.ref (g + (7 + p0))), some (.int a1), some (.int a2), some (.int (gF G (7 + p0) 6))]) (st' := [.int a2, .ref (g + (7 + p0))]) (pc' := 12) hk (.iload_n 2) 1 rfl rfl rfl rfl ?_
  obtain ⟨G4, hG4, hx⟩ := bnd_some hx
  have hG4 := Option.some.inj hG4
  refine ev_pf 15 hk rfl rfl (lk_spot hg hp0 gup_same) rfl rfl rfl (sf_6_6 hg hp0 gup_same hG4 gup_gup) rfl ?_
  refine ev_ls (L' := [some (.ref (g + (7 + p0))), some (.int a1), some (.int a2), some (.int (gF G (7 + p0) 6))]) (st' := [.int (gF G (7 + p0) 6)]) (pc' := 16) hk (.iload_n 3) 1 rfl rfl rfl rfl ?_
  cases hx
  obtain rfl := hM
  exact ev_retI hk rfl rfl
set_option maxRecDepth 2000 in
theorem rX_walk {S : Nat} {xs : Nat → Int32} {I : zI} {C : zC} {Y : Nat → Int32} {Γ : Nat → zG} {D : zD} {O : Nat → Int32} {M : zM} {ou : Nat → Int64} {od : Nat → UInt64} {j : Nat} {a1 : Int32} {a2 : Int32} {a3 : Int32} {X : (Int32 ⊕ String) × (Nat → Int32) × (Nat → zG)}   (hx : fX_walk Y Γ a1 a2 a3 = some X) : Ev S xs 366 0 [some (.ref 0), some (.int a1), some (.int a2), some (.int a3)] [] (zH I C Y Γ D O M ou od j) (Sum.elim (fun v => ((.inl (some (.int v))), (zH I C X.2.1 X.2.2 D O M ou od j))) (fun E => (.inr E, (zH I C X.2.1 X.2.2 D O M ou od (j + 1)))) X.1 : (Option Value ⊕ String) × px_H) := by
  generalize hM : (Sum.elim (fun v => ((.inl (some (.int v))), (zH I C X.2.1 X.2.2 D O M ou od j))) (fun E => (.inr E, (zH I C X.2.1 X.2.2 D O M ou od (j + 1)))) X.1 : (Option Value ⊕ String) × px_H) = y
  replace hM := hM.symm
  have hk : pt_mt[366]? = some pt_r366 := rfl
  unfold fX_walk at hx
  refine ev_ls (L' := [some (.ref 0), some (.int a1), some (.int a2), some (.int a3)]) (st' := [.ref 0]) (pc' := 1) hk (.aload_n 0) 1 rfl rfl rfl rfl ?_
  refine ev_gf (.ref 10) 4 hk rfl rfl lk_dh rfl rfl ?_
  refine ev_ls (L' := [some (.ref 0), some (.int a1), some (.int a2), some (.int a3)]) (st' := [.int a1, .ref 10]) (pc' := 5) hk (.iload_n 1) 1 rfl rfl rfl rfl ?_
  refine ev_ls (L' := [some (.ref 0), some (.int a1), some (.int a2), some (.int a3)]) (st' := [.int a2, .int a1, .ref 10]) (pc' := 6) hk (.iload_n 2) 1 rfl rfl rfl rfl ?_
  refine ev_ls (L' := [some (.ref 0), some (.int a1), some (.int a2), some (.int a3)]) (st' := [.int a3, .int a2, .int a1, .ref 10]) (pc' := 7) hk (.iload_n 3) 1 rfl rfl rfl rfl ?_
  obtain ⟨v2, hc3, hx⟩ := bnd_some hx
  refine ev_cv 256 3 [.int v2] 10 hk rfl rfl rfl rfl (lk_globe isG_10 rfl) rfl rfl rfl (ev_gs2 (rG_walkRefusal isG_10 hc3)) rfl rfl rfl rfl ?_
  rcases bnx_some hx with ⟨⟨⟩, hc4, hx⟩ | ⟨E5, hc4, hx⟩
  · skip
    refine ev_cs 350 1 [] 13 hk rfl rfl (by decide) rfl rfl rfl (rX_refuse hc4) rfl rfl rfl rfl ?_
    refine ev_ls (L' := [some (.ref 0), some (.int a1), some (.int a2), some (.int a3)]) (st' := [.ref 0]) (pc' := 14) hk (.aload_n 0) 1 rfl rfl rfl rfl ?_
    refine ev_gf (.ref 88) 17 hk rfl rfl lk_dh rfl rfl ?_
    refine ev_ls (L' := [some (.ref 0), some (.int a1), some (.int a2), some (.int a3)]) (st' := [.ref 0, .ref 88]) (pc' := 18) hk (.aload_n 0) 1 rfl rfl rfl rfl ?_
    refine ev_gf (.ref 10) 21 hk rfl rfl lk_dh rfl rfl ?_
    obtain ⟨Y7, Γ8, hc9, hx⟩ := bnd2_some hx
    refine ev_cv 261 1 [] 24 hk rfl rfl rfl rfl lk_hist rfl rfl rfl (rY_remember isG_10 (by decide) hc9) rfl rfl rfl rfl ?_
    refine ev_ls (L' := [some (.ref 0), some (.int a1), some (.int a2), some (.int a3)]) (st' := [.ref 0]) (pc' := 25) hk (.aload_n 0) 1 rfl rfl rfl rfl ?_
    refine ev_gf (.ref 10) 28 hk rfl rfl lk_dh rfl rfl ?_
    refine ev_gf (.ref (10 + 6)) 31 hk rfl rfl (lk_globe isG_10 rfl) rfl rfl ?_
    refine ev_ls (L' := [some (.ref 0), some (.int a1), some (.int a2), some (.int a3)]) (st' := [.int a1, .ref (10 + 6)]) (pc' := 32) hk (.iload_n 1) 1 rfl rfl rfl rfl ?_
    obtain ⟨p10, hp10, hx⟩ := bnd_some hx
    have hpp10 := rix_lt hp10
    refine ev_aal (10 + (7 + p10)) hp10 33 hk rfl (lk_spots isG_10 rfl) (by decide) (lk_sp hpp10) rfl ?_
    refine ev_ls (L' := [some (.ref 0), some (.int a1), some (.int a2), some (.int a3)]) (st' := [.int a2, .ref (10 + (7 + p10))]) (pc' := 34) hk (.iload_n 2) 1 rfl rfl rfl rfl ?_
    refine ev_ls (L' := [some (.ref 0), some (.int a1), some (.int a2), some (.int a3)]) (st' := [.int a3, .int a2, .ref (10 + (7 + p10))]) (pc' := 35) hk (.iload_n 3) 1 rfl rfl rfl rfl ?_
    obtain ⟨v12, G11, hc13, hx⟩ := bnd2_some hx
    refine ev_cv 297 2 [.int v12] 38 hk rfl rfl rfl rfl (lk_spot isG_10 hpp10 rfl) rfl rfl rfl (ev_gs (rP_setOut isG_10 hpp10 hc13)) rfl rfl rfl rfl ?_
    cases hx
    obtain rfl := hM
    exact ev_retI hk rfl rfl
  · skip
    cases hx
    obtain rfl := hM
    exact ev_csX 350 1 hk rfl rfl (by decide) rfl rfl rfl rfl (rX_refuse hc4) rfl rfl
set_option maxRecDepth 2000 in
theorem rw_walk {S : Nat} {xs : Nat → Int32} {I : zI} {C : zC} {Y : Nat → Int32} {Γ : Nat → zG} {D : zD} {O : Nat → Int32} {M : zM} {ou : Nat → Int64} {od : Nat → UInt64} {j : Nat} {a1 : Int32} {a2 : Int32} {a3 : Int32} {X : Int32 × (Nat → Int32) × (Nat → zG) × (Nat → Int64) × Nat}   (hx : fw_walk Y Γ ou j a1 a2 a3 = some X) : Ev S xs 410 0 [some (.ref 0), some (.int a1), some (.int a2), some (.int a3), some (.ref 261), none] [] (zH I C Y Γ D O M ou od j) (((.inl (some (.int X.1))), (zH I C X.2.1 X.2.2.1 D O M X.2.2.2.1 od X.2.2.2.2)) : (Option Value ⊕ String) × px_H) := by
  generalize hM : (((.inl (some (.int X.1))), (zH I C X.2.1 X.2.2.1 D O M X.2.2.2.1 od X.2.2.2.2)) : (Option Value ⊕ String) × px_H) = y
  replace hM := hM.symm
  have hk : pt_mt[410]? = some pt_r410 := rfl
  unfold fw_walk at hx
  refine ev_ls (L' := [some (.ref 0), some (.int a1), some (.int a2), some (.int a3), some (.ref 261), none]) (st' := [.ref 261]) (pc' := 2) hk (.aload 4) 2 rfl rfl rfl rfl ?_
  refine ev_op (st' := [.int 0, .ref 261]) (pc' := 3) hk (.iconst 0) 1 rfl rfl rfl ?_
  refine ev_ls (L' := [some (.ref 0), some (.int a1), some (.int a2), some (.int a3), some (.ref 261), none]) (st' := [.ref 0, .int 0, .ref 261]) (pc' := 4) hk (.aload_n 0) 1 rfl rfl rfl rfl ?_
  refine ev_ls (L' := [some (.ref 0), some (.int a1), some (.int a2), some (.int a3), some (.ref 261), none]) (st' := [.int a1, .ref 0, .int 0, .ref 261]) (pc' := 5) hk (.iload_n 1) 1 rfl rfl rfl rfl ?_
  refine ev_ls (L' := [some (.ref 0), some (.int a1), some (.int a2), some (.int a3), some (.ref 261), none]) (st' := [.int a2, .int a1, .ref 0, .int 0, .ref 261]) (pc' := 6) hk (.iload_n 2) 1 rfl rfl rfl rfl ?_
  refine ev_ls (L' := [some (.ref 0), some (.int a1), some (.int a2), some (.int a3), some (.ref 261), none]) (st' := [.int a3, .int a2, .int a1, .ref 0, .int 0, .ref 261]) (pc' := 7) hk (.iload_n 3) 1 rfl rfl rfl rfl ?_
  obtain ⟨r8, Y2, Γ3, hc4, hx⟩ := bnd3_some hx
  rcases r8 with v6 | E5
  · simp only [Sum.elim_inl] at hx
    refine ev_cv 366 3 [.int v6, .int 0, .ref 261] 10 hk rfl rfl rfl rfl lk_dh rfl rfl rfl (rX_walk hc4) rfl rfl rfl rfl ?_
    refine ev_op (st' := [.long (Int32.toInt64 v6), .int 0, .ref 261]) (pc' := 11) hk (.i2l) 1 rfl rfl rfl ?_
    obtain ⟨ou7, hou7, hx⟩ := bnd_some hx
    have hou7 := Option.some.inj hou7
    refine ev_las (A := (vp_updL ou 0 (Int32.toInt64 v6))) rfl 12 hk rfl lk_ou (sa_ou hou7) rfl ?_
    refine ev_jp (pc' := 27) (st' := []) hk (.goto 15) 3 rfl rfl rfl rfl rfl ?_
    refine ev_op (st' := [.int 0]) (pc' := 28) hk (.iconst 0) 1 rfl rfl rfl ?_
    cases hx
    obtain rfl := hM
    exact ev_retI hk rfl rfl
  · simp only [Sum.elim_inr] at hx
    rcases ite_or hx with ⟨hE, hx⟩ | ⟨hE, hx⟩
    · subst hE
      refine ev_cvC 366 3 17 hk rfl rfl rfl rfl lk_dh rfl rfl rfl (t := 15) (by decide +kernel) (L' := [some (.ref 0), some (.int a1), some (.int a2), some (.int a3), some (.ref 261), none]) rfl (rX_walk hc4) rfl rfl ?_
      refine ev_op (st' := [.int 1]) (pc' := 18) hk (.iconst 1) 1 rfl rfl rfl ?_
      cases hx
      obtain rfl := hM
      exact ev_retI hk rfl rfl
    rcases ite_or hx with ⟨hE, hx⟩ | ⟨hE, hx⟩
    · subst hE
      refine ev_cvC 366 3 21 hk rfl rfl rfl rfl lk_dh rfl rfl rfl (t := 19) (by decide +kernel) (L' := [some (.ref 0), some (.int a1), some (.int a2), some (.int a3), some (.ref 261), none]) rfl (rX_walk hc4) rfl rfl ?_
      refine ev_op (st' := [.int 2]) (pc' := 22) hk (.iconst 2) 1 rfl rfl rfl ?_
      cases hx
      obtain rfl := hM
      exact ev_retI hk rfl rfl
    rcases ite_or hx with ⟨hE, hx⟩ | ⟨hE, hx⟩
    · subst hE
      refine ev_cvC 366 3 25 hk rfl rfl rfl rfl lk_dh rfl rfl rfl (t := 23) (by decide +kernel) (L' := [some (.ref 0), some (.int a1), some (.int a2), some (.int a3), some (.ref 261), none]) rfl (rX_walk hc4) rfl rfl ?_
      refine ev_op (st' := [.int 3]) (pc' := 26) hk (.iconst 3) 1 rfl rfl rfl ?_
      cases hx
      obtain rfl := hM
      exact ev_retI hk rfl rfl
    cases hx
set_option maxRecDepth 2000 in
theorem rM_isSpot {S : Nat} {xs : Nat → Int32} {I : zI} {C : zC} {Y : Nat → Int32} {Γ : Nat → zG} {D : zD} {O : Nat → Int32} {M : zM} {ou : Nat → Int64} {od : Nat → UInt64} {j : Nat} {a1 : Int32} {X : Bool}   (hx : fM_isSpot M a1 = X) : Ev S xs 92 0 [some (.ref 247), some (.int a1)] [] (zH I C Y Γ D O M ou od j) (((.inl (some (.int (b2i X)))), (zH I C Y Γ D O M ou od j)) : (Option Value ⊕ String) × px_H) := by
  generalize hM : (((.inl (some (.int (b2i X)))), (zH I C Y Γ D O M ou od j)) : (Option Value ⊕ String) × px_H) = y
  replace hM := hM.symm
  have hk : pt_mt[92]? = some pt_r92 := rfl
  unfold fM_isSpot at hx
  refine ev_ls (L' := [some (.ref 247), some (.int a1)]) (st' := [.int a1]) (pc' := 1) hk (.iload_n 1) 1 rfl rfl rfl rfl ?_
  refine ev_op (st' := [.long (Int32.toInt64 a1)]) (pc' := 2) hk (.i2l) 1 rfl rfl rfl ?_
  refine ev_op (st' := [.long 0, .long (Int32.toInt64 a1)]) (pc' := 3) hk (.lconst 0) 1 rfl rfl rfl ?_
  refine ev_ls (L' := [some (.ref 247), some (.int a1)]) (st' := [.ref 247, .long 0, .long (Int32.toInt64 a1)]) (pc' := 4) hk (.aload_n 0) 1 rfl rfl rfl rfl ?_
  refine ev_gf (.ref 249) 7 hk rfl rfl lk_model rfl rfl ?_
  refine ev_op (st' := [.int 1, .ref 249, .long 0, .long (Int32.toInt64 a1)]) (pc' := 8) hk (.iconst 1) 1 rfl rfl rfl ?_
  refine ev_ial (v := ((mA M 249) 1)) rfl 9 hk rfl lk_m249 rfl ?_
  refine ev_op (st' := [.int 1, .int ((mA M 249) 1), .long 0, .long (Int32.toInt64 a1)]) (pc' := 10) hk (.iconst 1) 1 rfl rfl rfl ?_
  refine ev_op (st' := [.int (((mA M 249) 1) - 1), .long 0, .long (Int32.toInt64 a1)]) (pc' := 11) hk (.isub) 1 rfl rfl rfl ?_
  refine ev_op (st' := [.long (Int32.toInt64 (((mA M 249) 1) - 1)), .long 0, .long (Int32.toInt64 a1)]) (pc' := 12) hk (.i2l) 1 rfl rfl rfl ?_
  refine ev_cs 86 3 [.int (b2i (fM_isIn (Int32.toInt64 a1) 0 (Int32.toInt64 (((mA M 249) 1) - 1))))] 15 hk rfl rfl (by decide) rfl rfl rfl (rM_isIn rfl) rfl rfl rfl rfl ?_
  cases hx
  obtain rfl := hM
  exact ev_retZ _ rfl hk rfl rfl
set_option maxRecDepth 2000 in
theorem rM_isWalk {S : Nat} {xs : Nat → Int32} {I : zI} {C : zC} {Y : Nat → Int32} {Γ : Nat → zG} {D : zD} {O : Nat → Int32} {M : zM} {ou : Nat → Int64} {od : Nat → UInt64} {j : Nat} {a0 : Int32} {a1 : Int32} {X : Bool}   (hx : fM_isWalk a0 a1 = X) : Ev S xs 101 0 [some (.int a0), some (.int a1)] [] (zH I C Y Γ D O M ou od j) (((.inl (some (.int (b2i X)))), (zH I C Y Γ D O M ou od j)) : (Option Value ⊕ String) × px_H) := by
  generalize hM : (((.inl (some (.int (b2i X)))), (zH I C Y Γ D O M ou od j)) : (Option Value ⊕ String) × px_H) = y
  replace hM := hM.symm
  have hk : pt_mt[101]? = some pt_r101 := rfl
  unfold fM_isWalk at hx
  refine ev_ls (L' := [some (.int a0), some (.int a1)]) (st' := [.int a0]) (pc' := 1) hk (.iload_n 0) 1 rfl rfl rfl rfl ?_
  refine ev_op (st' := [.long (Int32.toInt64 a0)]) (pc' := 2) hk (.i2l) 1 rfl rfl rfl ?_
  refine ev_op (st' := [.long 0, .long (Int32.toInt64 a0)]) (pc' := 3) hk (.lconst 0) 1 rfl rfl rfl ?_
  refine ev_op (st' := [.long 1, .long 0, .long (Int32.toInt64 a0)]) (pc' := 4) hk (.lconst 1) 1 rfl rfl rfl ?_
  refine ev_cs 86 3 [.int (b2i (fM_isIn (Int32.toInt64 a0) 0 1))] 7 hk rfl rfl (by decide) rfl rfl rfl (rM_isIn rfl) rfl rfl rfl rfl ?_
  refine ev_d1 26 10 hk rfl rfl rfl rfl (px_beq hx (fun hc hx => ?_) (fun hc hx => ?_))
  · refine ev_op (st' := [.int 0]) (pc' := 27) hk (.iconst 0) 1 rfl rfl rfl ?_
    cases hx
    obtain rfl := hM
    exact ev_retZ false rfl hk rfl rfl
  · refine ev_ls (L' := [some (.int a0), some (.int a1)]) (st' := [.int a1]) (pc' := 11) hk (.iload_n 1) 1 rfl rfl rfl rfl ?_
    refine ev_op (st' := [.long (Int32.toInt64 a1)]) (pc' := 12) hk (.i2l) 1 rfl rfl rfl ?_
    refine ev_op (st' := [.long 0, .long (Int32.toInt64 a1)]) (pc' := 13) hk (.lconst 0) 1 rfl rfl rfl ?_
    refine ev_ldJ 359 16 hk rfl rfl rfl ?_
    refine ev_cs 86 3 [.int (b2i (fM_isIn (Int32.toInt64 a1) 0 359))] 19 hk rfl rfl (by decide) rfl rfl rfl (rM_isIn rfl) rfl rfl rfl rfl ?_
    refine ev_d1 26 22 hk rfl rfl rfl rfl (px_beq hx (fun hc hx => ?_) (fun hc hx => ?_))
    · refine ev_op (st' := [.int 0]) (pc' := 27) hk (.iconst 0) 1 rfl rfl rfl ?_
      cases hx
      obtain rfl := hM
      exact ev_retZ false rfl hk rfl rfl
    · refine ev_op (st' := [.int 1]) (pc' := 23) hk (.iconst 1) 1 rfl rfl rfl ?_
      refine ev_jp (pc' := 27) (st' := [.int 1]) hk (.goto 4) 3 rfl rfl rfl rfl rfl ?_
      cases hx
      obtain rfl := hM
      exact ev_retZ true rfl hk rfl rfl
set_option maxRecDepth 2000 in
theorem rM_isTravelling {S : Nat} {xs : Nat → Int32} {I : zI} {C : zC} {Y : Nat → Int32} {Γ : Nat → zG} {D : zD} {O : Nat → Int32} {M : zM} {ou : Nat → Int64} {od : Nat → UInt64} {j : Nat} {a1 : Int32} {X : Bool}   (hx : fM_isTravelling M a1 = some X) : Ev S xs 100 0 [some (.ref 247), some (.int a1)] [] (zH I C Y Γ D O M ou od j) (((.inl (some (.int (b2i X)))), (zH I C Y Γ D O M ou od j)) : (Option Value ⊕ String) × px_H) := by
  generalize hM : (((.inl (some (.int (b2i X)))), (zH I C Y Γ D O M ou od j)) : (Option Value ⊕ String) × px_H) = y
  replace hM := hM.symm
  have hk : pt_mt[100]? = some pt_r100 := rfl
  unfold fM_isTravelling at hx
  refine ev_ls (L' := [some (.ref 247), some (.int a1)]) (st' := [.ref 247]) (pc' := 1) hk (.aload_n 0) 1 rfl rfl rfl rfl ?_
  refine ev_ls (L' := [some (.ref 247), some (.int a1)]) (st' := [.int a1, .ref 247]) (pc' := 2) hk (.iload_n 1) 1 rfl rfl rfl rfl ?_
  refine ev_cv 92 1 [.int (b2i (fM_isSpot M a1))] 5 hk rfl rfl rfl rfl lk_model rfl rfl rfl (rM_isSpot rfl) rfl rfl rfl rfl ?_
  refine ev_d1 20 8 hk rfl rfl rfl rfl (px_beq hx (fun hc hx => ?_) (fun hc hx => ?_))
  · refine ev_op (st' := [.int 0]) (pc' := 21) hk (.iconst 0) 1 rfl rfl rfl ?_
    cases hx
    obtain rfl := hM
    exact ev_retZ false rfl hk rfl rfl
  · refine ev_ls (L' := [some (.ref 247), some (.int a1)]) (st' := [.ref 247]) (pc' := 9) hk (.aload_n 0) 1 rfl rfl rfl rfl ?_
    refine ev_ls (L' := [some (.ref 247), some (.int a1)]) (st' := [.int a1, .ref 247]) (pc' := 10) hk (.iload_n 1) 1 rfl rfl rfl rfl ?_
    obtain ⟨v1, hc2, hx⟩ := bnd_some hx
    refine ev_cv 187 1 [.int (b2i v1)] 13 hk rfl rfl rfl rfl lk_model rfl rfl rfl (rM_travels hc2) rfl rfl rfl rfl ?_
    refine ev_d1 20 16 hk rfl rfl rfl rfl (px_beq hx (fun hc hx => ?_) (fun hc hx => ?_))
    · refine ev_op (st' := [.int 0]) (pc' := 21) hk (.iconst 0) 1 rfl rfl rfl ?_
      cases hx
      obtain rfl := hM
      exact ev_retZ false rfl hk rfl rfl
    · refine ev_op (st' := [.int 1]) (pc' := 17) hk (.iconst 1) 1 rfl rfl rfl ?_
      refine ev_jp (pc' := 21) (st' := [.int 1]) hk (.goto 4) 3 rfl rfl rfl rfl rfl ?_
      cases hx
      obtain rfl := hM
      exact ev_retZ true rfl hk rfl rfl
set_option maxRecDepth 4000 in
theorem rM_goesThree_j26 {S : Nat} {xs : Nat → Int32} {I : zI} {C : zC} {Y : Nat → Int32} {Γ : Nat → zG} {D : zD} {O : Nat → Int32} {M : zM} {ou : Nat → Int64} {od : Nat → UInt64} {j : Nat} {a0t : Int32} {y : (Option Value ⊕ String) × px_H} {x : Bool × zM}  (hx : fM_goesThree_j26 M a0t = some x) (hM : (fun X : Bool × zM => y = (((.inl (some (.int (b2i X.1)))), (zH I C Y Γ D O X.2 ou od j)) : (Option Value ⊕ String) × px_H)) x) (u1 : Option Value) (hu1 : px_cz u1 = true) (u2 : Option Value) (hu2 : px_cz u2 = true) (u3 : Option Value) (hu3 : px_cz u3 = true) : Ev S xs 62 26 [some (.ref 247), u1, u2, u3] [.int a0t, .ref 247] (zH I C Y Γ D O M ou od j) y := by
  have hk : pt_mt[62]? = some pt_r62 := rfl
  unfold fM_goesThree_j26 at hx
  obtain ⟨M3, hM3, hx⟩ := bnd_some hx
  have hM3 := Option.some.inj hM3
  refine ev_pf 29 hk rfl rfl lk_model rfl rfl rfl (sf_8_0 hM3) rfl ?_
  refine ev_ls (L' := [some (.ref 247), u1, u2, u3]) (st' := [.ref 247]) (pc' := 30) hk (.aload_n 0) 1 rfl rfl rfl rfl ?_
  refine ev_gf (.int (mF M3 0)) 33 hk rfl rfl lk_model rfl rfl ?_
  refine ev_d1 40 36 hk rfl rfl rfl rfl (px_cne hx (fun hc hx => ?_) (fun hc hx => ?_))
  · refine ev_op (st' := [.int 0]) (pc' := 41) hk (.iconst 0) 1 rfl rfl rfl ?_
    cases hx
    obtain rfl := hM
    exact ev_retZ false rfl hk rfl rfl
  · refine ev_op (st' := [.int 1]) (pc' := 37) hk (.iconst 1) 1 rfl rfl rfl ?_
    refine ev_jp (pc' := 41) (st' := [.int 1]) hk (.goto 4) 3 rfl rfl rfl rfl rfl ?_
    cases hx
    obtain rfl := hM
    exact ev_retZ true rfl hk rfl rfl
set_option maxRecDepth 2000 in
theorem rM_goesThree {S : Nat} {xs : Nat → Int32} {I : zI} {C : zC} {Y : Nat → Int32} {Γ : Nat → zG} {D : zD} {O : Nat → Int32} {M : zM} {ou : Nat → Int64} {od : Nat → UInt64} {j : Nat} {a1 : Bool} {a2 : Bool} {a3 : Bool} {X : Bool × zM}   (hx : fM_goesThree M a1 a2 a3 = some X) : Ev S xs 62 0 [some (.ref 247), some (.int (b2i a1)), some (.int (b2i a2)), some (.int (b2i a3))] [] (zH I C Y Γ D O M ou od j) (((.inl (some (.int (b2i X.1)))), (zH I C Y Γ D O X.2 ou od j)) : (Option Value ⊕ String) × px_H) := by
  generalize hM : (((.inl (some (.int (b2i X.1)))), (zH I C Y Γ D O X.2 ou od j)) : (Option Value ⊕ String) × px_H) = y
  replace hM := hM.symm
  have hk : pt_mt[62]? = some pt_r62 := rfl
  unfold fM_goesThree at hx
  refine ev_ls (L' := [some (.ref 247), some (.int (b2i a1)), some (.int (b2i a2)), some (.int (b2i a3))]) (st' := [.ref 247]) (pc' := 1) hk (.aload_n 0) 1 rfl rfl rfl rfl ?_
  refine ev_ls (L' := [some (.ref 247), some (.int (b2i a1)), some (.int (b2i a2)), some (.int (b2i a3))]) (st' := [.int (b2i a1), .ref 247]) (pc' := 2) hk (.iload_n 1) 1 rfl rfl rfl rfl ?_
  refine ev_d1 9 5 hk rfl rfl rfl rfl (px_bne hx (fun hc hx => ?_) (fun hc hx => ?_))
  · refine ev_ls (L' := [some (.ref 247), some (.int (b2i a1)), some (.int (b2i a2)), some (.int (b2i a3))]) (st' := [.int (b2i a2), .ref 247]) (pc' := 10) hk (.iload_n 2) 1 rfl rfl rfl rfl ?_
    refine ev_d1 17 13 hk rfl rfl rfl rfl (px_bne hx (fun hc hx => ?_) (fun hc hx => ?_))
    · refine ev_ls (L' := [some (.ref 247), some (.int (b2i a1)), some (.int (b2i a2)), some (.int (b2i a3))]) (st' := [.int (b2i a3), .ref 247]) (pc' := 18) hk (.iload_n 3) 1 rfl rfl rfl rfl ?_
      refine ev_d1 25 21 hk rfl rfl rfl rfl (px_bne hx (fun hc hx => ?_) (fun hc hx => ?_))
      · refine ev_op (st' := [.int 0, .ref 247]) (pc' := 26) hk (.iconst 0) 1 rfl rfl rfl ?_
        exact rM_goesThree_j26 hx hM (some (.int (b2i a1))) rfl (some (.int (b2i a2))) rfl (some (.int (b2i a3))) rfl
      · refine ev_op (st' := [.int 3, .ref 247]) (pc' := 22) hk (.iconst 3) 1 rfl rfl rfl ?_
        refine ev_jp (pc' := 26) (st' := [.int 3, .ref 247]) hk (.goto 4) 3 rfl rfl rfl rfl rfl ?_
        exact rM_goesThree_j26 hx hM (some (.int (b2i a1))) rfl (some (.int (b2i a2))) rfl (some (.int (b2i a3))) rfl
    · refine ev_op (st' := [.int 2, .ref 247]) (pc' := 14) hk (.iconst 2) 1 rfl rfl rfl ?_
      refine ev_jp (pc' := 26) (st' := [.int 2, .ref 247]) hk (.goto 12) 3 rfl rfl rfl rfl rfl ?_
      exact rM_goesThree_j26 hx hM (some (.int (b2i a1))) rfl (some (.int (b2i a2))) rfl (some (.int (b2i a3))) rfl
  · refine ev_op (st' := [.int 1, .ref 247]) (pc' := 6) hk (.iconst 1) 1 rfl rfl rfl ?_
    refine ev_jp (pc' := 26) (st' := [.int 1, .ref 247]) hk (.goto 20) 3 rfl rfl rfl rfl rfl ?_
    exact rM_goesThree_j26 hx hM (some (.int (b2i a1))) rfl (some (.int (b2i a2))) rfl (some (.int (b2i a3))) rfl
set_option maxRecDepth 2000 in
theorem rM_tells {S : Nat} {xs : Nat → Int32} {I : zI} {C : zC} {Y : Nat → Int32} {Γ : Nat → zG} {D : zD} {O : Nat → Int32} {M : zM} {ou : Nat → Int64} {od : Nat → UInt64} {j : Nat} {a1 : Int32} {a2 : Int32} {a3 : Int32} {X : Int32 × zM}   (hx : fM_tells M a1 a2 a3 = some X) : Ev S xs 179 0 [some (.ref 247), some (.int a1), some (.int a2), some (.int a3), none] [] (zH I C Y Γ D O M ou od j) (((.inl (some (.int X.1))), (zH I C Y Γ D O X.2 ou od j)) : (Option Value ⊕ String) × px_H) := by
  generalize hM : (((.inl (some (.int X.1))), (zH I C Y Γ D O X.2 ou od j)) : (Option Value ⊕ String) × px_H) = y
  replace hM := hM.symm
  have hk : pt_mt[179]? = some pt_r179 := rfl
  unfold fM_tells at hx
  refine ev_ls (L' := [some (.ref 247), some (.int a1), some (.int a2), some (.int a3), none]) (st' := [.ref 247]) (pc' := 1) hk (.aload_n 0) 1 rfl rfl rfl rfl ?_
  refine ev_ls (L' := [some (.ref 247), some (.int a1), some (.int a2), some (.int a3), none]) (st' := [.int a1, .ref 247]) (pc' := 2) hk (.iload_n 1) 1 rfl rfl rfl rfl ?_
  refine ev_op (st' := [.int 7, .int a1, .ref 247]) (pc' := 4) hk (.bipush 7) 2 rfl rfl rfl ?_
  obtain ⟨v5, hc6, hx⟩ := bnd_some hx
  refine ev_cv 145 2 [.int v5] 7 hk rfl rfl rfl rfl lk_model rfl rfl rfl (rM_of hc6) rfl rfl rfl rfl ?_
  refine ev_ls (L' := [some (.ref 247), some (.int a1), some (.int a2), some (.int a3), some (.int v5)]) (st' := []) (pc' := 9) hk (.istore 4) 2 rfl rfl rfl rfl ?_
  refine ev_ls (L' := [some (.ref 247), some (.int a1), some (.int a2), some (.int a3), some (.int v5)]) (st' := [.ref 247]) (pc' := 10) hk (.aload_n 0) 1 rfl rfl rfl rfl ?_
  refine ev_gf (.ref 249) 13 hk rfl rfl lk_model rfl rfl ?_
  refine ev_ls (L' := [some (.ref 247), some (.int a1), some (.int a2), some (.int a3), some (.int v5)]) (st' := [.int a1, .ref 249]) (pc' := 14) hk (.iload_n 1) 1 rfl rfl rfl rfl ?_
  refine ev_cs 168 1 [.int (fM_spt a1), .ref 249] 17 hk rfl rfl (by decide) rfl rfl rfl (rM_spt rfl) rfl rfl rfl rfl ?_
  refine ev_op (st' := [.int 6, .int (fM_spt a1), .ref 249]) (pc' := 19) hk (.bipush 6) 2 rfl rfl rfl ?_
  refine ev_op (st' := [.int ((fM_spt a1) + 6), .ref 249]) (pc' := 20) hk (.iadd) 1 rfl rfl rfl ?_
  refine ev_ls (L' := [some (.ref 247), some (.int a1), some (.int a2), some (.int a3), some (.int v5)]) (st' := [.int a2, .int ((fM_spt a1) + 6), .ref 249]) (pc' := 21) hk (.iload_n 2) 1 rfl rfl rfl rfl ?_
  obtain ⟨A7, hA7, hx⟩ := bnd_some hx
  obtain ⟨M8, hM8, hx⟩ := bnd_some hx
  have hM8 := Option.some.inj hM8
  refine ev_ias hA7 22 hk rfl lk_m249 (sa_m249 hM8) rfl ?_
  refine ev_ls (L' := [some (.ref 247), some (.int a1), some (.int a2), some (.int a3), some (.int v5)]) (st' := [.ref 247]) (pc' := 23) hk (.aload_n 0) 1 rfl rfl rfl rfl ?_
  refine ev_gf (.ref 249) 26 hk rfl rfl lk_model rfl rfl ?_
  refine ev_ls (L' := [some (.ref 247), some (.int a1), some (.int a2), some (.int a3), some (.int v5)]) (st' := [.int a1, .ref 249]) (pc' := 27) hk (.iload_n 1) 1 rfl rfl rfl rfl ?_
  refine ev_cs 168 1 [.int (fM_spt a1), .ref 249] 30 hk rfl rfl (by decide) rfl rfl rfl (rM_spt rfl) rfl rfl rfl rfl ?_
  refine ev_op (st' := [.int 7, .int (fM_spt a1), .ref 249]) (pc' := 32) hk (.bipush 7) 2 rfl rfl rfl ?_
  refine ev_op (st' := [.int ((fM_spt a1) + 7), .ref 249]) (pc' := 33) hk (.iadd) 1 rfl rfl rfl ?_
  refine ev_ls (L' := [some (.ref 247), some (.int a1), some (.int a2), some (.int a3), some (.int v5)]) (st' := [.int a3, .int ((fM_spt a1) + 7), .ref 249]) (pc' := 34) hk (.iload_n 3) 1 rfl rfl rfl rfl ?_
  obtain ⟨A9, hA9, hx⟩ := bnd_some hx
  obtain ⟨M10, hM10, hx⟩ := bnd_some hx
  have hM10 := Option.some.inj hM10
  refine ev_ias hA9 35 hk rfl lk_m249 (sa_m249 hM10) rfl ?_
  refine ev_ls (L' := [some (.ref 247), some (.int a1), some (.int a2), some (.int a3), some (.int v5)]) (st' := [.int v5]) (pc' := 37) hk (.iload 4) 2 rfl rfl rfl rfl ?_
  cases hx
  obtain rfl := hM
  exact ev_retI hk rfl rfl
set_option maxRecDepth 2000 in
theorem rM_walk {S : Nat} {xs : Nat → Int32} {I : zI} {C : zC} {Y : Nat → Int32} {Γ : Nat → zG} {D : zD} {O : Nat → Int32} {M : zM} {ou : Nat → Int64} {od : Nat → UInt64} {j : Nat} {a1 : Int32} {a2 : Int32} {a3 : Int32} {X : Int32 × zM}   (hx : fM_walk M a1 a2 a3 = some X) : Ev S xs 193 0 [some (.ref 247), some (.int a1), some (.int a2), some (.int a3)] [] (zH I C Y Γ D O M ou od j) (((.inl (some (.int X.1))), (zH I C Y Γ D O X.2 ou od j)) : (Option Value ⊕ String) × px_H) := by
  generalize hM : (((.inl (some (.int X.1))), (zH I C Y Γ D O X.2 ou od j)) : (Option Value ⊕ String) × px_H) = y
  replace hM := hM.symm
  have hk : pt_mt[193]? = some pt_r193 := rfl
  unfold fM_walk at hx
  refine ev_ls (L' := [some (.ref 247), some (.int a1), some (.int a2), some (.int a3)]) (st' := [.ref 247]) (pc' := 1) hk (.aload_n 0) 1 rfl rfl rfl rfl ?_
  refine ev_ls (L' := [some (.ref 247), some (.int a1), some (.int a2), some (.int a3)]) (st' := [.ref 247, .ref 247]) (pc' := 2) hk (.aload_n 0) 1 rfl rfl rfl rfl ?_
  refine ev_ls (L' := [some (.ref 247), some (.int a1), some (.int a2), some (.int a3)]) (st' := [.int a1, .ref 247, .ref 247]) (pc' := 3) hk (.iload_n 1) 1 rfl rfl rfl rfl ?_
  refine ev_cv 92 1 [.int (b2i (fM_isSpot M a1)), .ref 247] 6 hk rfl rfl rfl rfl lk_model rfl rfl rfl (rM_isSpot rfl) rfl rfl rfl rfl ?_
  refine ev_ls (L' := [some (.ref 247), some (.int a1), some (.int a2), some (.int a3)]) (st' := [.int a2, .int (b2i (fM_isSpot M a1)), .ref 247]) (pc' := 7) hk (.iload_n 2) 1 rfl rfl rfl rfl ?_
  refine ev_ls (L' := [some (.ref 247), some (.int a1), some (.int a2), some (.int a3)]) (st' := [.int a3, .int a2, .int (b2i (fM_isSpot M a1)), .ref 247]) (pc' := 8) hk (.iload_n 3) 1 rfl rfl rfl rfl ?_
  refine ev_cs 101 2 [.int (b2i (fM_isWalk a2 a3)), .int (b2i (fM_isSpot M a1)), .ref 247] 11 hk rfl rfl (by decide) rfl rfl rfl (rM_isWalk rfl) rfl rfl rfl rfl ?_
  refine ev_ls (L' := [some (.ref 247), some (.int a1), some (.int a2), some (.int a3)]) (st' := [.ref 247, .int (b2i (fM_isWalk a2 a3)), .int (b2i (fM_isSpot M a1)), .ref 247]) (pc' := 12) hk (.aload_n 0) 1 rfl rfl rfl rfl ?_
  refine ev_ls (L' := [some (.ref 247), some (.int a1), some (.int a2), some (.int a3)]) (st' := [.int a1, .ref 247, .int (b2i (fM_isWalk a2 a3)), .int (b2i (fM_isSpot M a1)), .ref 247]) (pc' := 13) hk (.iload_n 1) 1 rfl rfl rfl rfl ?_
  obtain ⟨v1, hc2, hx⟩ := bnd_some hx
  refine ev_cv 100 1 [.int (b2i v1), .int (b2i (fM_isWalk a2 a3)), .int (b2i (fM_isSpot M a1)), .ref 247] 16 hk rfl rfl rfl rfl lk_model rfl rfl rfl (rM_isTravelling hc2) rfl rfl rfl rfl ?_
  obtain ⟨v4, M3, hc5, hx⟩ := bnd2_some hx
  refine ev_cv 62 3 [.int (b2i v4)] 19 hk rfl rfl rfl rfl lk_model rfl rfl rfl (rM_goesThree hc5) rfl rfl rfl rfl ?_
  refine ev_d1 24 22 hk rfl rfl rfl rfl (px_bne hx (fun hc hx => ?_) (fun hc hx => ?_))
  · refine ev_ls (L' := [some (.ref 247), some (.int a1), some (.int a2), some (.int a3)]) (st' := [.ref 247]) (pc' := 25) hk (.aload_n 0) 1 rfl rfl rfl rfl ?_
    obtain ⟨M6, hc7, hx⟩ := bnd_some hx
    refine ev_cv 117 0 [] 28 hk rfl rfl rfl rfl lk_model rfl rfl rfl (rM_laysAside hc7) rfl rfl rfl rfl ?_
    refine ev_ls (L' := [some (.ref 247), some (.int a1), some (.int a2), some (.int a3)]) (st' := [.ref 247]) (pc' := 29) hk (.aload_n 0) 1 rfl rfl rfl rfl ?_
    refine ev_ls (L' := [some (.ref 247), some (.int a1), some (.int a2), some (.int a3)]) (st' := [.ref 247, .ref 247]) (pc' := 30) hk (.aload_n 0) 1 rfl rfl rfl rfl ?_
    refine ev_ls (L' := [some (.ref 247), some (.int a1), some (.int a2), some (.int a3)]) (st' := [.int a1, .ref 247, .ref 247]) (pc' := 31) hk (.iload_n 1) 1 rfl rfl rfl rfl ?_
    refine ev_ls (L' := [some (.ref 247), some (.int a1), some (.int a2), some (.int a3)]) (st' := [.int a2, .int a1, .ref 247, .ref 247]) (pc' := 32) hk (.iload_n 2) 1 rfl rfl rfl rfl ?_
    refine ev_ls (L' := [some (.ref 247), some (.int a1), some (.int a2), some (.int a3)]) (st' := [.int a3, .int a2, .int a1, .ref 247, .ref 247]) (pc' := 33) hk (.iload_n 3) 1 rfl rfl rfl rfl ?_
    obtain ⟨v9, M8, hc10, hx⟩ := bnd2_some hx
    refine ev_cv 179 3 [.int v9, .ref 247] 36 hk rfl rfl rfl rfl lk_model rfl rfl rfl (rM_tells hc10) rfl rfl rfl rfl ?_
    obtain ⟨v12, M11, hc13, hx⟩ := bnd2_some hx
    refine ev_cv 105 1 [.int v12] 39 hk rfl rfl rfl rfl lk_model rfl rfl rfl (rM_kept hc13) rfl rfl rfl rfl ?_
    cases hx
    obtain rfl := hM
    exact ev_retI hk rfl rfl
  · refine ev_op (st' := [.int 0]) (pc' := 23) hk (.iconst 0) 1 rfl rfl rfl ?_
    cases hx
    obtain rfl := hM
    exact ev_retI hk rfl rfl
set_option maxRecDepth 2000 in
theorem rG_stepRefusal {S : Nat} {xs : Nat → Int32} {I : zI} {C : zC} {Y : Nat → Int32} {Γ : Nat → zG} {D : zD} {O : Nat → Int32} {M : zM} {ou : Nat → Int64} {od : Nat → UInt64} {j : Nat} {g : Nat} {G : zG} {a1 : Int32} {a2 : Int32} {X : Int32}  (hg : isG g) (hx : fG_stepRefusal G a1 a2 = some X) : Ev S xs 252 0 [some (.ref g), some (.int a1), some (.int a2)] [] (zH I C Y (gup Γ g G) D O M ou od j) (((.inl (some (.int X))), (zH I C Y (gup Γ g G) D O M ou od j)) : (Option Value ⊕ String) × px_H) := by
  generalize hM : (((.inl (some (.int X))), (zH I C Y (gup Γ g G) D O M ou od j)) : (Option Value ⊕ String) × px_H) = y
  replace hM := hM.symm
  have hk : pt_mt[252]? = some pt_r252 := rfl
  unfold fG_stepRefusal at hx
  refine ev_ls (L' := [some (.ref g), some (.int a1), some (.int a2)]) (st' := [.ref g]) (pc' := 1) hk (.aload_n 0) 1 rfl rfl rfl rfl ?_
  refine ev_ls (L' := [some (.ref g), some (.int a1), some (.int a2)]) (st' := [.int a1, .ref g]) (pc' := 2) hk (.iload_n 1) 1 rfl rfl rfl rfl ?_
  refine ev_cv 224 1 [.int (b2i (fG_hasSpot G a1))] 5 hk rfl rfl rfl rfl (lk_globe hg gup_same) rfl rfl rfl (rG_hasSpot hg rfl) rfl rfl rfl rfl ?_
  refine ev_d1 10 8 hk rfl rfl rfl rfl (px_bne hx (fun hc hx => ?_) (fun hc hx => ?_))
  · refine ev_ls (L' := [some (.ref g), some (.int a1), some (.int a2)]) (st' := [.int a2]) (pc' := 11) hk (.iload_n 2) 1 rfl rfl rfl rfl ?_
    refine ev_cs 322 1 [.int (b2i (fX_isDirection a2))] 14 hk rfl rfl (by decide) rfl rfl rfl (rX_isDirection rfl) rfl rfl rfl rfl ?_
    refine ev_d1 19 17 hk rfl rfl rfl rfl (px_bne hx (fun hc hx => ?_) (fun hc hx => ?_))
    · refine ev_ls (L' := [some (.ref g), some (.int a1), some (.int a2)]) (st' := [.ref g]) (pc' := 20) hk (.aload_n 0) 1 rfl rfl rfl rfl ?_
      refine ev_ls (L' := [some (.ref g), some (.int a1), some (.int a2)]) (st' := [.ref g, .ref g]) (pc' := 21) hk (.aload_n 0) 1 rfl rfl rfl rfl ?_
      refine ev_gf (.ref (g + 6)) 24 hk rfl rfl (lk_globe hg gup_same) rfl rfl ?_
      refine ev_ls (L' := [some (.ref g), some (.int a1), some (.int a2)]) (st' := [.int a1, .ref (g + 6), .ref g]) (pc' := 25) hk (.iload_n 1) 1 rfl rfl rfl rfl ?_
      obtain ⟨p2, hp2, hx⟩ := bnd_some hx
      have hpp2 := rix_lt hp2
      refine ev_aal (g + (7 + p2)) hp2 26 hk rfl (lk_spots hg gup_same) (by decide) (lk_sp hpp2) rfl ?_
      refine ev_ls (L' := [some (.ref g), some (.int a1), some (.int a2)]) (st' := [.int a2, .ref (g + (7 + p2)), .ref g]) (pc' := 27) hk (.iload_n 2) 1 rfl rfl rfl rfl ?_
      obtain ⟨v3, hc4, hx⟩ := bnd_some hx
      refine ev_cv 251 2 [.int v3] 30 hk rfl rfl rfl rfl (lk_globe hg gup_same) rfl rfl rfl (rG_stepHindrance hg hpp2 hc4) rfl rfl rfl rfl ?_
      refine ev_d1 37 33 hk rfl rfl rfl rfl (px_cne hx (fun hc hx => ?_) (fun hc hx => ?_))
      · refine ev_op (st' := [.int 3]) (pc' := 38) hk (.iconst 3) 1 rfl rfl rfl ?_
        cases hx
        obtain rfl := hM
        exact ev_retI hk rfl rfl
      · refine ev_op (st' := [.int 0]) (pc' := 34) hk (.iconst 0) 1 rfl rfl rfl ?_
        refine ev_jp (pc' := 38) (st' := [.int 0]) hk (.goto 4) 3 rfl rfl rfl rfl rfl ?_
        cases hx
        obtain rfl := hM
        exact ev_retI hk rfl rfl
    · refine ev_op (st' := [.int 2]) (pc' := 18) hk (.iconst 2) 1 rfl rfl rfl ?_
      cases hx
      obtain rfl := hM
      exact ev_retI hk rfl rfl
  · refine ev_op (st' := [.int 1]) (pc' := 9) hk (.iconst 1) 1 rfl rfl rfl ?_
    cases hx
    obtain rfl := hM
    exact ev_retI hk rfl rfl
set_option maxRecDepth 2000 in
theorem rX_step {S : Nat} {xs : Nat → Int32} {I : zI} {C : zC} {Y : Nat → Int32} {Γ : Nat → zG} {D : zD} {O : Nat → Int32} {M : zM} {ou : Nat → Int64} {od : Nat → UInt64} {j : Nat} {a1 : Int32} {a2 : Int32} {X : (Int32 ⊕ String) × (Nat → Int32) × (Nat → zG)}   (hx : fX_step Y Γ a1 a2 = some X) : Ev S xs 357 0 [some (.ref 0), some (.int a1), some (.int a2)] [] (zH I C Y Γ D O M ou od j) (Sum.elim (fun v => ((.inl (some (.int v))), (zH I C X.2.1 X.2.2 D O M ou od j))) (fun E => (.inr E, (zH I C X.2.1 X.2.2 D O M ou od (j + 1)))) X.1 : (Option Value ⊕ String) × px_H) := by
  generalize hM : (Sum.elim (fun v => ((.inl (some (.int v))), (zH I C X.2.1 X.2.2 D O M ou od j))) (fun E => (.inr E, (zH I C X.2.1 X.2.2 D O M ou od (j + 1)))) X.1 : (Option Value ⊕ String) × px_H) = y
  replace hM := hM.symm
  have hk : pt_mt[357]? = some pt_r357 := rfl
  unfold fX_step at hx
  refine ev_ls (L' := [some (.ref 0), some (.int a1), some (.int a2)]) (st' := [.ref 0]) (pc' := 1) hk (.aload_n 0) 1 rfl rfl rfl rfl ?_
  refine ev_gf (.ref 10) 4 hk rfl rfl lk_dh rfl rfl ?_
  refine ev_ls (L' := [some (.ref 0), some (.int a1), some (.int a2)]) (st' := [.int a1, .ref 10]) (pc' := 5) hk (.iload_n 1) 1 rfl rfl rfl rfl ?_
  refine ev_ls (L' := [some (.ref 0), some (.int a1), some (.int a2)]) (st' := [.int a2, .int a1, .ref 10]) (pc' := 6) hk (.iload_n 2) 1 rfl rfl rfl rfl ?_
  obtain ⟨v3, hc4, hx⟩ := bnd_some hx
  refine ev_cv 252 2 [.int v3] 9 hk rfl rfl rfl rfl (lk_globe isG_10 rfl) rfl rfl rfl (ev_gs2 (rG_stepRefusal isG_10 hc4)) rfl rfl rfl rfl ?_
  rcases bnx_some hx with ⟨⟨⟩, hc5, hx⟩ | ⟨E6, hc5, hx⟩
  · skip
    refine ev_cs 350 1 [] 12 hk rfl rfl (by decide) rfl rfl rfl (rX_refuse hc5) rfl rfl rfl rfl ?_
    refine ev_ls (L' := [some (.ref 0), some (.int a1), some (.int a2)]) (st' := [.ref 0]) (pc' := 13) hk (.aload_n 0) 1 rfl rfl rfl rfl ?_
    refine ev_gf (.ref 88) 16 hk rfl rfl lk_dh rfl rfl ?_
    refine ev_ls (L' := [some (.ref 0), some (.int a1), some (.int a2)]) (st' := [.ref 0, .ref 88]) (pc' := 17) hk (.aload_n 0) 1 rfl rfl rfl rfl ?_
    refine ev_gf (.ref 10) 20 hk rfl rfl lk_dh rfl rfl ?_
    obtain ⟨Y8, Γ9, hc10, hx⟩ := bnd2_some hx
    refine ev_cv 261 1 [] 23 hk rfl rfl rfl rfl lk_hist rfl rfl rfl (rY_remember isG_10 (by decide) hc10) rfl rfl rfl rfl ?_
    refine ev_ls (L' := [some (.ref 0), some (.int a1), some (.int a2)]) (st' := [.ref 0]) (pc' := 24) hk (.aload_n 0) 1 rfl rfl rfl rfl ?_
    refine ev_gf (.ref 10) 27 hk rfl rfl lk_dh rfl rfl ?_
    refine ev_ls (L' := [some (.ref 0), some (.int a1), some (.int a2)]) (st' := [.ref 0, .ref 10]) (pc' := 28) hk (.aload_n 0) 1 rfl rfl rfl rfl ?_
    refine ev_gf (.ref 10) 31 hk rfl rfl lk_dh rfl rfl ?_
    refine ev_gf (.ref (10 + 6)) 34 hk rfl rfl (lk_globe isG_10 rfl) rfl rfl ?_
    refine ev_ls (L' := [some (.ref 0), some (.int a1), some (.int a2)]) (st' := [.int a1, .ref (10 + 6), .ref 10]) (pc' := 35) hk (.iload_n 1) 1 rfl rfl rfl rfl ?_
    obtain ⟨p11, hp11, hx⟩ := bnd_some hx
    have hpp11 := rix_lt hp11
    refine ev_aal (10 + (7 + p11)) hp11 36 hk rfl (lk_spots isG_10 rfl) (by decide) (lk_sp hpp11) rfl ?_
    refine ev_ls (L' := [some (.ref 0), some (.int a1), some (.int a2)]) (st' := [.int a2, .ref (10 + (7 + p11)), .ref 10]) (pc' := 37) hk (.iload_n 2) 1 rfl rfl rfl rfl ?_
    obtain ⟨G12, hc13, hx⟩ := bnd_some hx
    refine ev_cv 239 2 [] 40 hk rfl rfl rfl rfl (lk_globe isG_10 rfl) rfl rfl rfl (ev_gs (rG_makeStep isG_10 hpp11 hc13)) rfl rfl rfl rfl ?_
    refine ev_ls (L' := [some (.ref 0), some (.int a1), some (.int a2)]) (st' := [.ref 0]) (pc' := 41) hk (.aload_n 0) 1 rfl rfl rfl rfl ?_
    refine ev_gf (.ref 10) 44 hk rfl rfl lk_dh rfl rfl ?_
    refine ev_gf (.ref (10 + 6)) 47 hk rfl rfl (lk_globe isG_10 rfl) rfl rfl ?_
    refine ev_ls (L' := [some (.ref 0), some (.int a1), some (.int a2)]) (st' := [.int a1, .ref (10 + 6)]) (pc' := 48) hk (.iload_n 1) 1 rfl rfl rfl rfl ?_
    obtain ⟨p14, hp14, hx⟩ := bnd_some hx
    have hpp14 := rix_lt hp14
    refine ev_aal (10 + (7 + p14)) hp14 49 hk rfl (lk_spots isG_10 rfl) (by decide) (lk_sp hpp14) rfl ?_
    refine ev_gf (.int (gF ((gup Γ9 10 G12) 10) (7 + p14) 3)) 52 hk rfl rfl (lk_spot isG_10 hpp14 rfl) rfl rfl ?_
    cases hx
    obtain rfl := hM
    exact ev_retI hk rfl rfl
  · skip
    cases hx
    obtain rfl := hM
    exact ev_csX 350 1 hk rfl rfl (by decide) rfl rfl rfl rfl (rX_refuse hc5) rfl rfl
set_option maxRecDepth 2000 in
theorem rw_step {S : Nat} {xs : Nat → Int32} {I : zI} {C : zC} {Y : Nat → Int32} {Γ : Nat → zG} {D : zD} {O : Nat → Int32} {M : zM} {ou : Nat → Int64} {od : Nat → UInt64} {j : Nat} {a1 : Int32} {a2 : Int32} {X : Int32 × (Nat → Int32) × (Nat → zG) × (Nat → Int64) × Nat}   (hx : fw_step Y Γ ou j a1 a2 = some X) : Ev S xs 404 0 [some (.ref 0), some (.int a1), some (.int a2), some (.ref 261), none] [] (zH I C Y Γ D O M ou od j) (((.inl (some (.int X.1))), (zH I C X.2.1 X.2.2.1 D O M X.2.2.2.1 od X.2.2.2.2)) : (Option Value ⊕ String) × px_H) := by
  generalize hM : (((.inl (some (.int X.1))), (zH I C X.2.1 X.2.2.1 D O M X.2.2.2.1 od X.2.2.2.2)) : (Option Value ⊕ String) × px_H) = y
  replace hM := hM.symm
  have hk : pt_mt[404]? = some pt_r404 := rfl
  unfold fw_step at hx
  refine ev_ls (L' := [some (.ref 0), some (.int a1), some (.int a2), some (.ref 261), none]) (st' := [.ref 261]) (pc' := 1) hk (.aload_n 3) 1 rfl rfl rfl rfl ?_
  refine ev_op (st' := [.int 0, .ref 261]) (pc' := 2) hk (.iconst 0) 1 rfl rfl rfl ?_
  refine ev_ls (L' := [some (.ref 0), some (.int a1), some (.int a2), some (.ref 261), none]) (st' := [.ref 0, .int 0, .ref 261]) (pc' := 3) hk (.aload_n 0) 1 rfl rfl rfl rfl ?_
  refine ev_ls (L' := [some (.ref 0), some (.int a1), some (.int a2), some (.ref 261), none]) (st' := [.int a1, .ref 0, .int 0, .ref 261]) (pc' := 4) hk (.iload_n 1) 1 rfl rfl rfl rfl ?_
  refine ev_ls (L' := [some (.ref 0), some (.int a1), some (.int a2), some (.ref 261), none]) (st' := [.int a2, .int a1, .ref 0, .int 0, .ref 261]) (pc' := 5) hk (.iload_n 2) 1 rfl rfl rfl rfl ?_
  obtain ⟨r8, Y2, Γ3, hc4, hx⟩ := bnd3_some hx
  rcases r8 with v6 | E5
  · simp only [Sum.elim_inl] at hx
    refine ev_cv 357 2 [.int v6, .int 0, .ref 261] 8 hk rfl rfl rfl rfl lk_dh rfl rfl rfl (rX_step hc4) rfl rfl rfl rfl ?_
    refine ev_op (st' := [.long (Int32.toInt64 v6), .int 0, .ref 261]) (pc' := 9) hk (.i2l) 1 rfl rfl rfl ?_
    obtain ⟨ou7, hou7, hx⟩ := bnd_some hx
    have hou7 := Option.some.inj hou7
    refine ev_las (A := (vp_updL ou 0 (Int32.toInt64 v6))) rfl 10 hk rfl lk_ou (sa_ou hou7) rfl ?_
    refine ev_jp (pc' := 25) (st' := []) hk (.goto 15) 3 rfl rfl rfl rfl rfl ?_
    refine ev_op (st' := [.int 0]) (pc' := 26) hk (.iconst 0) 1 rfl rfl rfl ?_
    cases hx
    obtain rfl := hM
    exact ev_retI hk rfl rfl
  · simp only [Sum.elim_inr] at hx
    rcases ite_or hx with ⟨hE, hx⟩ | ⟨hE, hx⟩
    · subst hE
      refine ev_cvC 357 2 15 hk rfl rfl rfl rfl lk_dh rfl rfl rfl (t := 13) (by decide +kernel) (L' := [some (.ref 0), some (.int a1), some (.int a2), some (.ref 261), none]) rfl (rX_step hc4) rfl rfl ?_
      refine ev_op (st' := [.int 1]) (pc' := 16) hk (.iconst 1) 1 rfl rfl rfl ?_
      cases hx
      obtain rfl := hM
      exact ev_retI hk rfl rfl
    rcases ite_or hx with ⟨hE, hx⟩ | ⟨hE, hx⟩
    · subst hE
      refine ev_cvC 357 2 19 hk rfl rfl rfl rfl lk_dh rfl rfl rfl (t := 17) (by decide +kernel) (L' := [some (.ref 0), some (.int a1), some (.int a2), some (.ref 261), none]) rfl (rX_step hc4) rfl rfl ?_
      refine ev_op (st' := [.int 2]) (pc' := 20) hk (.iconst 2) 1 rfl rfl rfl ?_
      cases hx
      obtain rfl := hM
      exact ev_retI hk rfl rfl
    rcases ite_or hx with ⟨hE, hx⟩ | ⟨hE, hx⟩
    · subst hE
      refine ev_cvC 357 2 23 hk rfl rfl rfl rfl lk_dh rfl rfl rfl (t := 21) (by decide +kernel) (L' := [some (.ref 0), some (.int a1), some (.int a2), some (.ref 261), none]) rfl (rX_step hc4) rfl rfl ?_
      refine ev_op (st' := [.int 3]) (pc' := 24) hk (.iconst 3) 1 rfl rfl rfl ?_
      cases hx
      obtain rfl := hM
      exact ev_retI hk rfl rfl
    cases hx
set_option maxRecDepth 4000 in
theorem rM_step_j55 {S : Nat} {xs : Nat → Int32} {I : zI} {C : zC} {Y : Nat → Int32} {Γ : Nat → zG} {D : zD} {O : Nat → Int32} {M : zM} {ou : Nat → Int64} {od : Nat → UInt64} {j : Nat} {a1 : Int32} {a2 : Int32} {a0t : Bool} {a1t : Bool} {a2t : Bool} {y : (Option Value ⊕ String) × px_H} {x : Int32 × zM}  (hx : fM_step_j55 M a1 a2 a0t a1t a2t = some x) (hM : (fun X : Int32 × zM => y = (((.inl (some (.int X.1))), (zH I C Y Γ D O X.2 ou od j)) : (Option Value ⊕ String) × px_H)) x) (u3 : Option Value) (hu3 : px_cz u3 = true) : Ev S xs 171 55 [some (.ref 247), some (.int a1), some (.int a2), u3] [.int (b2i a0t), .int (b2i a1t), .int (b2i a2t), .ref 247] (zH I C Y Γ D O M ou od j) y := by
  have hk : pt_mt[171]? = some pt_r171 := rfl
  unfold fM_step_j55 at hx
  obtain ⟨v4, M3, hc5, hx⟩ := bnd2_some hx
  refine ev_cv 62 3 [.int (b2i v4)] 58 hk rfl rfl rfl rfl lk_model rfl rfl rfl (rM_goesThree hc5) rfl rfl rfl rfl ?_
  refine ev_d1 63 61 hk rfl rfl rfl rfl (px_bne hx (fun hc hx => ?_) (fun hc hx => ?_))
  · refine ev_ls (L' := [some (.ref 247), some (.int a1), some (.int a2), u3]) (st' := [.ref 247]) (pc' := 64) hk (.aload_n 0) 1 rfl rfl rfl rfl ?_
    obtain ⟨M6, hc7, hx⟩ := bnd_some hx
    refine ev_cv 117 0 [] 67 hk rfl rfl rfl rfl lk_model rfl rfl rfl (rM_laysAside hc7) rfl rfl rfl rfl ?_
    refine ev_ls (L' := [some (.ref 247), some (.int a1), some (.int a2), u3]) (st' := [.ref 247]) (pc' := 68) hk (.aload_n 0) 1 rfl rfl rfl rfl ?_
    refine ev_ls (L' := [some (.ref 247), some (.int a1), some (.int a2), u3]) (st' := [.ref 247, .ref 247]) (pc' := 69) hk (.aload_n 0) 1 rfl rfl rfl rfl ?_
    refine ev_ls (L' := [some (.ref 247), some (.int a1), some (.int a2), u3]) (st' := [.int a1, .ref 247, .ref 247]) (pc' := 70) hk (.iload_n 1) 1 rfl rfl rfl rfl ?_
    refine ev_ls (L' := [some (.ref 247), some (.int a1), some (.int a2), u3]) (st' := [.int a2, .int a1, .ref 247, .ref 247]) (pc' := 71) hk (.iload_n 2) 1 rfl rfl rfl rfl ?_
    obtain ⟨v9, M8, hc10, hx⟩ := bnd2_some hx
    refine ev_cv 174 2 [.int v9, .ref 247] 74 hk rfl rfl rfl rfl lk_model rfl rfl rfl (rM_steps hc10) rfl rfl rfl rfl ?_
    obtain ⟨v12, M11, hc13, hx⟩ := bnd2_some hx
    refine ev_cv 105 1 [.int v12] 77 hk rfl rfl rfl rfl lk_model rfl rfl rfl (rM_kept hc13) rfl rfl rfl rfl ?_
    cases hx
    obtain rfl := hM
    exact ev_retI hk rfl rfl
  · refine ev_op (st' := [.int 0]) (pc' := 62) hk (.iconst 0) 1 rfl rfl rfl ?_
    cases hx
    obtain rfl := hM
    exact ev_retI hk rfl rfl
set_option maxRecDepth 4000 in
theorem rM_step_j54 {S : Nat} {xs : Nat → Int32} {I : zI} {C : zC} {Y : Nat → Int32} {Γ : Nat → zG} {D : zD} {O : Nat → Int32} {M : zM} {ou : Nat → Int64} {od : Nat → UInt64} {j : Nat} {a1 : Int32} {a2 : Int32} {a0t : Bool} {a1t : Bool} {y : (Option Value ⊕ String) × px_H} {x : Int32 × zM}  (hx : fM_step_j54 M a1 a2 a0t a1t = some x) (hM : (fun X : Int32 × zM => y = (((.inl (some (.int X.1))), (zH I C Y Γ D O X.2 ou od j)) : (Option Value ⊕ String) × px_H)) x) (u3 : Option Value) (hu3 : px_cz u3 = true) : Ev S xs 171 54 [some (.ref 247), some (.int a1), some (.int a2), u3] [.int (b2i a0t), .int (b2i a1t), .ref 247] (zH I C Y Γ D O M ou od j) y := by
  have hk : pt_mt[171]? = some pt_r171 := rfl
  unfold fM_step_j54 at hx
  refine ev_op (st' := [.int 0, .int (b2i a0t), .int (b2i a1t), .ref 247]) (pc' := 55) hk (.iconst 0) 1 rfl rfl rfl ?_
  exact rM_step_j55 hx hM u3 hu3
set_option maxRecDepth 4000 in
theorem rM_step_j23 {S : Nat} {xs : Nat → Int32} {I : zI} {C : zC} {Y : Nat → Int32} {Γ : Nat → zG} {D : zD} {O : Nat → Int32} {M : zM} {ou : Nat → Int64} {od : Nat → UInt64} {j : Nat} {a1 : Int32} {a2 : Int32} {a0t : Bool} {y : (Option Value ⊕ String) × px_H} {x : Int32 × zM}  (hx : fM_step_j23 M a1 a2 a0t = some x) (hM : (fun X : Int32 × zM => y = (((.inl (some (.int X.1))), (zH I C Y Γ D O X.2 ou od j)) : (Option Value ⊕ String) × px_H)) x)  : Ev S xs 171 23 [some (.ref 247), some (.int a1), some (.int a2), none] [.int (b2i a0t)] (zH I C Y Γ D O M ou od j) y := by
  have hk : pt_mt[171]? = some pt_r171 := rfl
  unfold fM_step_j23 at hx
  refine ev_ls (L' := [some (.ref 247), some (.int a1), some (.int a2), some (.int (b2i a0t))]) (st' := []) (pc' := 24) hk (.istore_n 3) 1 rfl rfl rfl rfl ?_
  refine ev_ls (L' := [some (.ref 247), some (.int a1), some (.int a2), some (.int (b2i a0t))]) (st' := [.ref 247]) (pc' := 25) hk (.aload_n 0) 1 rfl rfl rfl rfl ?_
  refine ev_ls (L' := [some (.ref 247), some (.int a1), some (.int a2), some (.int (b2i a0t))]) (st' := [.ref 247, .ref 247]) (pc' := 26) hk (.aload_n 0) 1 rfl rfl rfl rfl ?_
  refine ev_ls (L' := [some (.ref 247), some (.int a1), some (.int a2), some (.int (b2i a0t))]) (st' := [.int a1, .ref 247, .ref 247]) (pc' := 27) hk (.iload_n 1) 1 rfl rfl rfl rfl ?_
  refine ev_cv 92 1 [.int (b2i (fM_isSpot M a1)), .ref 247] 30 hk rfl rfl rfl rfl lk_model rfl rfl rfl (rM_isSpot rfl) rfl rfl rfl rfl ?_
  refine ev_ls (L' := [some (.ref 247), some (.int a1), some (.int a2), some (.int (b2i a0t))]) (st' := [.int a2, .int (b2i (fM_isSpot M a1)), .ref 247]) (pc' := 31) hk (.iload_n 2) 1 rfl rfl rfl rfl ?_
  refine ev_op (st' := [.long (Int32.toInt64 a2), .int (b2i (fM_isSpot M a1)), .ref 247]) (pc' := 32) hk (.i2l) 1 rfl rfl rfl ?_
  refine ev_op (st' := [.long 0, .long (Int32.toInt64 a2), .int (b2i (fM_isSpot M a1)), .ref 247]) (pc' := 33) hk (.lconst 0) 1 rfl rfl rfl ?_
  refine ev_op (st' := [.long 1, .long 0, .long (Int32.toInt64 a2), .int (b2i (fM_isSpot M a1)), .ref 247]) (pc' := 34) hk (.lconst 1) 1 rfl rfl rfl ?_
  refine ev_cs 86 3 [.int (b2i (fM_isIn (Int32.toInt64 a2) 0 1)), .int (b2i (fM_isSpot M a1)), .ref 247] 37 hk rfl rfl (by decide) rfl rfl rfl (rM_isIn rfl) rfl rfl rfl rfl ?_
  refine ev_ls (L' := [some (.ref 247), some (.int a1), some (.int a2), some (.int (b2i a0t))]) (st' := [.int (b2i a0t), .int (b2i (fM_isIn (Int32.toInt64 a2) 0 1)), .int (b2i (fM_isSpot M a1)), .ref 247]) (pc' := 38) hk (.iload_n 3) 1 rfl rfl rfl rfl ?_
  refine ev_d1 54 41 hk rfl rfl rfl rfl (px_beq hx (fun hc hx => ?_) (fun hc hx => ?_))
  · exact rM_step_j54 hx hM (some (.int (b2i a0t))) rfl
  · refine ev_ls (L' := [some (.ref 247), some (.int a1), some (.int a2), some (.int (b2i a0t))]) (st' := [.ref 247, .int (b2i (fM_isIn (Int32.toInt64 a2) 0 1)), .int (b2i (fM_isSpot M a1)), .ref 247]) (pc' := 42) hk (.aload_n 0) 1 rfl rfl rfl rfl ?_
    refine ev_ls (L' := [some (.ref 247), some (.int a1), some (.int a2), some (.int (b2i a0t))]) (st' := [.int a1, .ref 247, .int (b2i (fM_isIn (Int32.toInt64 a2) 0 1)), .int (b2i (fM_isSpot M a1)), .ref 247]) (pc' := 43) hk (.iload_n 1) 1 rfl rfl rfl rfl ?_
    refine ev_ls (L' := [some (.ref 247), some (.int a1), some (.int a2), some (.int (b2i a0t))]) (st' := [.int a2, .int a1, .ref 247, .int (b2i (fM_isIn (Int32.toInt64 a2) 0 1)), .int (b2i (fM_isSpot M a1)), .ref 247]) (pc' := 44) hk (.iload_n 2) 1 rfl rfl rfl rfl ?_
    obtain ⟨v1, hc2, hx⟩ := bnd_some hx
    refine ev_cv 173 2 [.int v1, .int (b2i (fM_isIn (Int32.toInt64 a2) 0 1)), .int (b2i (fM_isSpot M a1)), .ref 247] 47 hk rfl rfl rfl rfl lk_model rfl rfl rfl (rM_stepWhy hc2) rfl rfl rfl rfl ?_
    refine ev_d1 54 50 hk rfl rfl rfl rfl (px_cne hx (fun hc hx => ?_) (fun hc hx => ?_))
    · exact rM_step_j54 hx hM (some (.int (b2i a0t))) rfl
    · refine ev_op (st' := [.int 1, .int (b2i (fM_isIn (Int32.toInt64 a2) 0 1)), .int (b2i (fM_isSpot M a1)), .ref 247]) (pc' := 51) hk (.iconst 1) 1 rfl rfl rfl ?_
      refine ev_jp (pc' := 55) (st' := [.int 1, .int (b2i (fM_isIn (Int32.toInt64 a2) 0 1)), .int (b2i (fM_isSpot M a1)), .ref 247]) hk (.goto 4) 3 rfl rfl rfl rfl rfl ?_
      exact rM_step_j55 hx hM (some (.int (b2i a0t))) rfl

/-! THE ROWS of the methods: each function is what the pure machine does (12) -/
set_option maxRecDepth 4000 in
theorem rw_law_j1154 {S : Nat} {xs : Nat → Int32} {I : zI} {C : zC} {Y : Nat → Int32} {Γ : Nat → zG} {D : zD} {O : Nat → Int32} {M : zM} {ou : Nat → Int64} {od : Nat → UInt64} {j : Nat} {a5 : Int32} {y : (Option Value ⊕ String) × px_H} {x : (zI × zC × (Nat → Int32) × (Nat → zG) × zD × (Nat → Int32) × zM × (Nat → Int64) × (Nat → UInt64) × Nat × Int32) ⊕ (Bool × zI × zC × (Nat → Int32) × (Nat → zG) × zD × (Nat → Int32) × zM × (Nat → Int64) × (Nat → UInt64) × Nat)}  (hx : fw_law_j1154 S xs I C Y Γ D O M ou od j a5 = some x) (hM : (Sum.elim (qw_law_28 S xs y) (fun X : Bool × zI × zC × (Nat → Int32) × (Nat → zG) × zD × (Nat → Int32) × zM × (Nat → Int64) × (Nat → UInt64) × Nat => y = (((.inl (some (.int (b2i X.1)))), (zH X.2.1 X.2.2.1 X.2.2.2.1 X.2.2.2.2.1 X.2.2.2.2.2.1 X.2.2.2.2.2.2.1 X.2.2.2.2.2.2.2.1 X.2.2.2.2.2.2.2.2.1 X.2.2.2.2.2.2.2.2.2.1 X.2.2.2.2.2.2.2.2.2.2)) : (Option Value ⊕ String) × px_H))) x) (u6 : Option Value) (u7 : Option Value) (hu7 : px_cz u7 = true) (u8 : Option Value) : Ev S xs 412 1154 [some (.retAddr 0), some (.ref 0), some (.ref 247), some (.ref 261), some (.ref 262), some (.int a5), u6, u7, u8, none] [] (zH I C Y Γ D O M ou od j) y := by
  have hk : pt_mt[412]? = some pt_r412 := rfl
  unfold fw_law_j1154 at hx
  refine ev_ls (L' := [some (.retAddr 0), some (.ref 0), some (.ref 247), some (.ref 261), some (.ref 262), some (.int a5), u6, u7, u8, none]) (st' := [.ref 0]) (pc' := 1155) hk (.aload_n 1) 1 rfl rfl rfl rfl ?_
  refine ev_cv 356 0 [.int (fX_spotCount Γ)] 1158 hk rfl rfl rfl rfl lk_dh rfl rfl rfl (rX_spotCount rfl) rfl rfl rfl rfl ?_
  refine ev_ls (L' := [some (.retAddr 0), some (.ref 0), some (.ref 247), some (.ref 261), some (.ref 262), some (.int a5), u6, u7, u8, none]) (st' := [.ref 247, .int (fX_spotCount Γ)]) (pc' := 1159) hk (.aload_n 2) 1 rfl rfl rfl rfl ?_
  obtain ⟨v654, M653, hc655, hx⟩ := bnd2_some hx
  refine ev_cv 165 0 [.int v654, .int (fX_spotCount Γ)] 1162 hk rfl rfl rfl rfl lk_model rfl rfl rfl (rM_spotCount hc655) rfl rfl rfl rfl ?_
  refine ev_d2 3189 1165 hk rfl rfl rfl rfl (px_ceq hx (fun hc hx => ?_) (fun hc hx => ?_))
  · refine ev_ls (L' := [some (.retAddr 0), some (.ref 0), some (.ref 247), some (.ref 261), some (.ref 262), some (.int (a5 + 6)), u6, u7, u8, none]) (st' := []) (pc' := 3192) hk (.iinc 5 6) 3 rfl rfl rfl rfl ?_
    refine ev_jp (pc' := 28) (st' := []) hk (.goto (-3164)) 3 rfl rfl rfl rfl rfl ?_
    cases hx
    exact hM u6 u7 hu7 u8
  · refine ev_op (st' := [.int 0]) (pc' := 1166) hk (.iconst 0) 1 rfl rfl rfl ?_
    cases hx
    obtain rfl := hM
    exact ev_retZ false rfl hk rfl rfl
set_option maxRecDepth 4000 in
theorem rw_law_j1167 {S : Nat} {xs : Nat → Int32} {I : zI} {C : zC} {Y : Nat → Int32} {Γ : Nat → zG} {D : zD} {O : Nat → Int32} {M : zM} {ou : Nat → Int64} {od : Nat → UInt64} {j : Nat} {a5 : Int32} {y : (Option Value ⊕ String) × px_H} {x : (zI × zC × (Nat → Int32) × (Nat → zG) × zD × (Nat → Int32) × zM × (Nat → Int64) × (Nat → UInt64) × Nat × Int32) ⊕ (Bool × zI × zC × (Nat → Int32) × (Nat → zG) × zD × (Nat → Int32) × zM × (Nat → Int64) × (Nat → UInt64) × Nat)}  (hx : fw_law_j1167 S xs I C Y Γ D O M ou od j a5 = some x) (hM : (Sum.elim (qw_law_28 S xs y) (fun X : Bool × zI × zC × (Nat → Int32) × (Nat → zG) × zD × (Nat → Int32) × zM × (Nat → Int64) × (Nat → UInt64) × Nat => y = (((.inl (some (.int (b2i X.1)))), (zH X.2.1 X.2.2.1 X.2.2.2.1 X.2.2.2.2.1 X.2.2.2.2.2.1 X.2.2.2.2.2.2.1 X.2.2.2.2.2.2.2.1 X.2.2.2.2.2.2.2.2.1 X.2.2.2.2.2.2.2.2.2.1 X.2.2.2.2.2.2.2.2.2.2)) : (Option Value ⊕ String) × px_H))) x) (u6 : Option Value) (u7 : Option Value) (hu7 : px_cz u7 = true) (u8 : Option Value) : Ev S xs 412 1167 [some (.retAddr 0), some (.ref 0), some (.ref 247), some (.ref 261), some (.ref 262), some (.int a5), u6, u7, u8, none] [] (zH I C Y Γ D O M ou od j) y := by
  have hk : pt_mt[412]? = some pt_r412 := rfl
  unfold fw_law_j1167 at hx
  refine ev_ls (L' := [some (.retAddr 0), some (.ref 0), some (.ref 247), some (.ref 261), some (.ref 262), some (.int a5), u6, u7, u8, none]) (st' := [.ref 0]) (pc' := 1168) hk (.aload_n 1) 1 rfl rfl rfl rfl ?_
  refine ev_ls (L' := [some (.retAddr 0), some (.ref 0), some (.ref 247), some (.ref 261), some (.ref 262), some (.int a5), u6, u7, u8, none]) (st' := [.retAddr 0, .ref 0]) (pc' := 1169) hk (.aload_n 0) 1 rfl rfl rfl rfl ?_
  refine ev_ls (L' := [some (.retAddr 0), some (.ref 0), some (.ref 247), some (.ref 261), some (.ref 262), some (.int a5), u6, u7, u8, none]) (st' := [.int a5, .retAddr 0, .ref 0]) (pc' := 1171) hk (.iload 5) 2 rfl rfl rfl rfl ?_
  refine ev_op (st' := [.int 1, .int a5, .retAddr 0, .ref 0]) (pc' := 1172) hk (.iconst 1) 1 rfl rfl rfl ?_
  refine ev_op (st' := [.int (a5 + 1), .retAddr 0, .ref 0]) (pc' := 1173) hk (.iadd) 1 rfl rfl rfl ?_
  obtain ⟨v656, hv656, hx⟩ := bnd_some hx
  refine ev_sal hv656 1174 hk rfl rfl ?_
  refine ev_ls (L' := [some (.retAddr 0), some (.ref 0), some (.ref 247), some (.ref 261), some (.ref 262), some (.int a5), u6, u7, u8, none]) (st' := [.retAddr 0, .int v656, .ref 0]) (pc' := 1175) hk (.aload_n 0) 1 rfl rfl rfl rfl ?_
  refine ev_ls (L' := [some (.retAddr 0), some (.ref 0), some (.ref 247), some (.ref 261), some (.ref 262), some (.int a5), u6, u7, u8, none]) (st' := [.int a5, .retAddr 0, .int v656, .ref 0]) (pc' := 1177) hk (.iload 5) 2 rfl rfl rfl rfl ?_
  refine ev_op (st' := [.int 2, .int a5, .retAddr 0, .int v656, .ref 0]) (pc' := 1178) hk (.iconst 2) 1 rfl rfl rfl ?_
  refine ev_op (st' := [.int (a5 + 2), .retAddr 0, .int v656, .ref 0]) (pc' := 1179) hk (.iadd) 1 rfl rfl rfl ?_
  obtain ⟨v657, hv657, hx⟩ := bnd_some hx
  refine ev_sal hv657 1180 hk rfl rfl ?_
  refine ev_ls (L' := [some (.retAddr 0), some (.ref 0), some (.ref 247), some (.ref 261), some (.ref 262), some (.int a5), u6, u7, u8, none]) (st' := [.ref 261, .int v657, .int v656, .ref 0]) (pc' := 1181) hk (.aload_n 3) 1 rfl rfl rfl rfl ?_
  obtain ⟨v660, ou658, j659, hc661, hx⟩ := bnd3_some hx
  refine ev_cs 395 4 [.int v660] 1184 hk rfl rfl (by decide) rfl rfl rfl (rw_nameByte hc661) rfl rfl rfl rfl ?_
  refine ev_ls (L' := [some (.retAddr 0), some (.ref 0), some (.ref 247), some (.ref 261), some (.ref 262), some (.int a5), some (.int v660), u7, u8, none]) (st' := []) (pc' := 1186) hk (.istore 6) 2 rfl rfl rfl rfl ?_
  refine ev_ls (L' := [some (.retAddr 0), some (.ref 0), some (.ref 247), some (.ref 261), some (.ref 262), some (.int a5), some (.int v660), u7, u8, none]) (st' := [.ref 247]) (pc' := 1187) hk (.aload_n 2) 1 rfl rfl rfl rfl ?_
  refine ev_ls (L' := [some (.retAddr 0), some (.ref 0), some (.ref 247), some (.ref 261), some (.ref 262), some (.int a5), some (.int v660), u7, u8, none]) (st' := [.retAddr 0, .ref 247]) (pc' := 1188) hk (.aload_n 0) 1 rfl rfl rfl rfl ?_
  refine ev_ls (L' := [some (.retAddr 0), some (.ref 0), some (.ref 247), some (.ref 261), some (.ref 262), some (.int a5), some (.int v660), u7, u8, none]) (st' := [.int a5, .retAddr 0, .ref 247]) (pc' := 1190) hk (.iload 5) 2 rfl rfl rfl rfl ?_
  refine ev_op (st' := [.int 1, .int a5, .retAddr 0, .ref 247]) (pc' := 1191) hk (.iconst 1) 1 rfl rfl rfl ?_
  refine ev_op (st' := [.int (a5 + 1), .retAddr 0, .ref 247]) (pc' := 1192) hk (.iadd) 1 rfl rfl rfl ?_
  obtain ⟨v662, hv662, hx⟩ := bnd_some hx
  refine ev_sal hv662 1193 hk rfl rfl ?_
  refine ev_ls (L' := [some (.retAddr 0), some (.ref 0), some (.ref 247), some (.ref 261), some (.ref 262), some (.int a5), some (.int v660), u7, u8, none]) (st' := [.retAddr 0, .int v662, .ref 247]) (pc' := 1194) hk (.aload_n 0) 1 rfl rfl rfl rfl ?_
  refine ev_ls (L' := [some (.retAddr 0), some (.ref 0), some (.ref 247), some (.ref 261), some (.ref 262), some (.int a5), some (.int v660), u7, u8, none]) (st' := [.int a5, .retAddr 0, .int v662, .ref 247]) (pc' := 1196) hk (.iload 5) 2 rfl rfl rfl rfl ?_
  refine ev_op (st' := [.int 2, .int a5, .retAddr 0, .int v662, .ref 247]) (pc' := 1197) hk (.iconst 2) 1 rfl rfl rfl ?_
  refine ev_op (st' := [.int (a5 + 2), .retAddr 0, .int v662, .ref 247]) (pc' := 1198) hk (.iadd) 1 rfl rfl rfl ?_
  obtain ⟨v663, hv663, hx⟩ := bnd_some hx
  refine ev_sal hv663 1199 hk rfl rfl ?_
  obtain ⟨v665, M664, hc666, hx⟩ := bnd2_some hx
  refine ev_cv 141 2 [.int v665] 1202 hk rfl rfl rfl rfl lk_model rfl rfl rfl (rM_nameByte hc666) rfl rfl rfl rfl ?_
  refine ev_ls (L' := [some (.retAddr 0), some (.ref 0), some (.ref 247), some (.ref 261), some (.ref 262), some (.int a5), some (.int v660), some (.int v665), u8, none]) (st' := []) (pc' := 1204) hk (.istore 7) 2 rfl rfl rfl rfl ?_
  refine ev_ls (L' := [some (.retAddr 0), some (.ref 0), some (.ref 247), some (.ref 261), some (.ref 262), some (.int a5), some (.int v660), some (.int v665), u8, none]) (st' := [.ref 247]) (pc' := 1205) hk (.aload_n 2) 1 rfl rfl rfl rfl ?_
  refine ev_cv 183 0 [.int (fM_thrown M664)] 1208 hk rfl rfl rfl rfl lk_model rfl rfl rfl (rM_thrown rfl) rfl rfl rfl rfl ?_
  refine ev_ls (L' := [some (.retAddr 0), some (.ref 0), some (.ref 247), some (.ref 261), some (.ref 262), some (.int a5), some (.int v660), some (.int v665), u8, none]) (st' := [.int v660, .int (fM_thrown M664)]) (pc' := 1210) hk (.iload 6) 2 rfl rfl rfl rfl ?_
  refine ev_d2 1215 1213 hk rfl rfl rfl rfl (px_ceq hx (fun hc hx => ?_) (fun hc hx => ?_))
  · refine ev_ls (L' := [some (.retAddr 0), some (.ref 0), some (.ref 247), some (.ref 261), some (.ref 262), some (.int a5), some (.int v660), some (.int v665), u8, none]) (st' := [.int v660]) (pc' := 1217) hk (.iload 6) 2 rfl rfl rfl rfl ?_
    refine ev_d1 1232 1220 hk rfl rfl rfl rfl (px_cne hx (fun hc hx => ?_) (fun hc hx => ?_))
    · refine ev_jp (pc' := 3189) (st' := []) hk (.goto 1957) 3 rfl rfl rfl rfl rfl ?_
      refine ev_ls (L' := [some (.retAddr 0), some (.ref 0), some (.ref 247), some (.ref 261), some (.ref 262), some (.int (a5 + 6)), some (.int v660), some (.int v665), u8, none]) (st' := []) (pc' := 3192) hk (.iinc 5 6) 3 rfl rfl rfl rfl ?_
      refine ev_jp (pc' := 28) (st' := []) hk (.goto (-3164)) 3 rfl rfl rfl rfl rfl ?_
      cases hx
      exact hM (some (.int v660)) (some (.int v665)) rfl u8
    · refine ev_ls (L' := [some (.retAddr 0), some (.ref 0), some (.ref 247), some (.ref 261), some (.ref 262), some (.int a5), some (.int v660), some (.int v665), u8, none]) (st' := [.ref 261]) (pc' := 1221) hk (.aload_n 3) 1 rfl rfl rfl rfl ?_
      refine ev_op (st' := [.int 0, .ref 261]) (pc' := 1222) hk (.iconst 0) 1 rfl rfl rfl ?_
      refine ev_lal (v := (ou658 0)) rfl 1223 hk rfl lk_ou rfl ?_
      refine ev_ls (L' := [some (.retAddr 0), some (.ref 0), some (.ref 247), some (.ref 261), some (.ref 262), some (.int a5), some (.int v660), some (.int v665), u8, none]) (st' := [.int v665, .long (ou658 0)]) (pc' := 1225) hk (.iload 7) 2 rfl rfl rfl rfl ?_
      refine ev_op (st' := [.long (Int32.toInt64 v665), .long (ou658 0)]) (pc' := 1226) hk (.i2l) 1 rfl rfl rfl ?_
      refine ev_op (st' := [.int (lg_cmp (ou658 0) (Int32.toInt64 v665))]) (pc' := 1227) hk (.lcmp) 1 rfl rfl rfl ?_
      refine ev_d1 1232 1230 hk rfl rfl rfl rfl (px_leq hx (fun hc hx => ?_) (fun hc hx => ?_))
      · refine ev_jp (pc' := 3189) (st' := []) hk (.goto 1957) 3 rfl rfl rfl rfl rfl ?_
        refine ev_ls (L' := [some (.retAddr 0), some (.ref 0), some (.ref 247), some (.ref 261), some (.ref 262), some (.int (a5 + 6)), some (.int v660), some (.int v665), u8, none]) (st' := []) (pc' := 3192) hk (.iinc 5 6) 3 rfl rfl rfl rfl ?_
        refine ev_jp (pc' := 28) (st' := []) hk (.goto (-3164)) 3 rfl rfl rfl rfl rfl ?_
        cases hx
        exact hM (some (.int v660)) (some (.int v665)) rfl u8
      · refine ev_op (st' := [.int 0]) (pc' := 1231) hk (.iconst 0) 1 rfl rfl rfl ?_
        cases hx
        obtain rfl := hM
        exact ev_retZ false rfl hk rfl rfl
  · refine ev_op (st' := [.int 0]) (pc' := 1214) hk (.iconst 0) 1 rfl rfl rfl ?_
    cases hx
    obtain rfl := hM
    exact ev_retZ false rfl hk rfl rfl
set_option maxRecDepth 4000 in
theorem rw_law_j1235 {S : Nat} {xs : Nat → Int32} {I : zI} {C : zC} {Y : Nat → Int32} {Γ : Nat → zG} {D : zD} {O : Nat → Int32} {M : zM} {ou : Nat → Int64} {od : Nat → UInt64} {j : Nat} {a5 : Int32} {y : (Option Value ⊕ String) × px_H} {x : (zI × zC × (Nat → Int32) × (Nat → zG) × zD × (Nat → Int32) × zM × (Nat → Int64) × (Nat → UInt64) × Nat × Int32) ⊕ (Bool × zI × zC × (Nat → Int32) × (Nat → zG) × zD × (Nat → Int32) × zM × (Nat → Int64) × (Nat → UInt64) × Nat)}  (hx : fw_law_j1235 S xs I C Y Γ D O M ou od j a5 = some x) (hM : (Sum.elim (qw_law_28 S xs y) (fun X : Bool × zI × zC × (Nat → Int32) × (Nat → zG) × zD × (Nat → Int32) × zM × (Nat → Int64) × (Nat → UInt64) × Nat => y = (((.inl (some (.int (b2i X.1)))), (zH X.2.1 X.2.2.1 X.2.2.2.1 X.2.2.2.2.1 X.2.2.2.2.2.1 X.2.2.2.2.2.2.1 X.2.2.2.2.2.2.2.1 X.2.2.2.2.2.2.2.2.1 X.2.2.2.2.2.2.2.2.2.1 X.2.2.2.2.2.2.2.2.2.2)) : (Option Value ⊕ String) × px_H))) x) (u6 : Option Value) (u7 : Option Value) (hu7 : px_cz u7 = true) (u8 : Option Value) : Ev S xs 412 1235 [some (.retAddr 0), some (.ref 0), some (.ref 247), some (.ref 261), some (.ref 262), some (.int a5), u6, u7, u8, none] [] (zH I C Y Γ D O M ou od j) y := by
  have hk : pt_mt[412]? = some pt_r412 := rfl
  unfold fw_law_j1235 at hx
  refine ev_ls (L' := [some (.retAddr 0), some (.ref 0), some (.ref 247), some (.ref 261), some (.ref 262), some (.int a5), u6, u7, u8, none]) (st' := [.ref 0]) (pc' := 1236) hk (.aload_n 1) 1 rfl rfl rfl rfl ?_
  obtain ⟨v667, hc668, hx⟩ := bnd_some hx
  refine ev_cv 313 0 [.int v667] 1239 hk rfl rfl rfl rfl lk_dh rfl rfl rfl (rX_findSpot hc668) rfl rfl rfl rfl ?_
  refine ev_ls (L' := [some (.retAddr 0), some (.ref 0), some (.ref 247), some (.ref 261), some (.ref 262), some (.int a5), u6, u7, u8, none]) (st' := [.ref 247, .int v667]) (pc' := 1240) hk (.aload_n 2) 1 rfl rfl rfl rfl ?_
  obtain ⟨v670, M669, hc671, hx⟩ := bnd2_some hx
  refine ev_cv 54 0 [.int v670, .int v667] 1243 hk rfl rfl rfl rfl lk_model rfl rfl rfl (rM_findSpot hc671) rfl rfl rfl rfl ?_
  refine ev_d2 3189 1246 hk rfl rfl rfl rfl (px_ceq hx (fun hc hx => ?_) (fun hc hx => ?_))
  · refine ev_ls (L' := [some (.retAddr 0), some (.ref 0), some (.ref 247), some (.ref 261), some (.ref 262), some (.int (a5 + 6)), u6, u7, u8, none]) (st' := []) (pc' := 3192) hk (.iinc 5 6) 3 rfl rfl rfl rfl ?_
    refine ev_jp (pc' := 28) (st' := []) hk (.goto (-3164)) 3 rfl rfl rfl rfl rfl ?_
    cases hx
    exact hM u6 u7 hu7 u8
  · refine ev_op (st' := [.int 0]) (pc' := 1247) hk (.iconst 0) 1 rfl rfl rfl ?_
    cases hx
    obtain rfl := hM
    exact ev_retZ false rfl hk rfl rfl
set_option maxRecDepth 4000 in
theorem rw_law_j1302 {S : Nat} {xs : Nat → Int32} {I : zI} {C : zC} {Y : Nat → Int32} {Γ : Nat → zG} {D : zD} {O : Nat → Int32} {M : zM} {ou : Nat → Int64} {od : Nat → UInt64} {j : Nat} {a5 : Int32} {a0t : Int64} {a1t : Int64} {y : (Option Value ⊕ String) × px_H} {x : (zI × zC × (Nat → Int32) × (Nat → zG) × zD × (Nat → Int32) × zM × (Nat → Int64) × (Nat → UInt64) × Nat × Int32) ⊕ (Bool × zI × zC × (Nat → Int32) × (Nat → zG) × zD × (Nat → Int32) × zM × (Nat → Int64) × (Nat → UInt64) × Nat)}  (hx : fw_law_j1302 S xs I C Y Γ D O M ou od j a5 a0t a1t = some x) (hM : (Sum.elim (qw_law_28 S xs y) (fun X : Bool × zI × zC × (Nat → Int32) × (Nat → zG) × zD × (Nat → Int32) × zM × (Nat → Int64) × (Nat → UInt64) × Nat => y = (((.inl (some (.int (b2i X.1)))), (zH X.2.1 X.2.2.1 X.2.2.2.1 X.2.2.2.2.1 X.2.2.2.2.2.1 X.2.2.2.2.2.2.1 X.2.2.2.2.2.2.2.1 X.2.2.2.2.2.2.2.2.1 X.2.2.2.2.2.2.2.2.2.1 X.2.2.2.2.2.2.2.2.2.2)) : (Option Value ⊕ String) × px_H))) x) (u6 : Option Value) (hu6 : px_cz u6 = true) (u7 : Option Value) (hu7 : px_cz u7 = true) (u8 : Option Value) : Ev S xs 412 1302 [some (.retAddr 0), some (.ref 0), some (.ref 247), some (.ref 261), some (.ref 262), some (.int a5), u6, u7, u8, none] [.long a0t, .long a1t] (zH I C Y Γ D O M ou od j) y := by
  have hk : pt_mt[412]? = some pt_r412 := rfl
  unfold fw_law_j1302 at hx
  refine ev_op (st' := [.int (lg_cmp a1t a0t)]) (pc' := 1303) hk (.lcmp) 1 rfl rfl rfl ?_
  refine ev_d1 1308 1306 hk rfl rfl rfl rfl (px_leq hx (fun hc hx => ?_) (fun hc hx => ?_))
  · refine ev_jp (pc' := 3189) (st' := []) hk (.goto 1881) 3 rfl rfl rfl rfl rfl ?_
    refine ev_ls (L' := [some (.retAddr 0), some (.ref 0), some (.ref 247), some (.ref 261), some (.ref 262), some (.int (a5 + 6)), u6, u7, u8, none]) (st' := []) (pc' := 3192) hk (.iinc 5 6) 3 rfl rfl rfl rfl ?_
    refine ev_jp (pc' := 28) (st' := []) hk (.goto (-3164)) 3 rfl rfl rfl rfl rfl ?_
    cases hx
    exact hM u6 u7 hu7 u8
  · refine ev_op (st' := [.int 0]) (pc' := 1307) hk (.iconst 0) 1 rfl rfl rfl ?_
    cases hx
    obtain rfl := hM
    exact ev_retZ false rfl hk rfl rfl
set_option maxRecDepth 4000 in
theorem rw_law_j1248 {S : Nat} {xs : Nat → Int32} {I : zI} {C : zC} {Y : Nat → Int32} {Γ : Nat → zG} {D : zD} {O : Nat → Int32} {M : zM} {ou : Nat → Int64} {od : Nat → UInt64} {j : Nat} {a5 : Int32} {y : (Option Value ⊕ String) × px_H} {x : (zI × zC × (Nat → Int32) × (Nat → zG) × zD × (Nat → Int32) × zM × (Nat → Int64) × (Nat → UInt64) × Nat × Int32) ⊕ (Bool × zI × zC × (Nat → Int32) × (Nat → zG) × zD × (Nat → Int32) × zM × (Nat → Int64) × (Nat → UInt64) × Nat)}  (hx : fw_law_j1248 S xs I C Y Γ D O M ou od j a5 = some x) (hM : (Sum.elim (qw_law_28 S xs y) (fun X : Bool × zI × zC × (Nat → Int32) × (Nat → zG) × zD × (Nat → Int32) × zM × (Nat → Int64) × (Nat → UInt64) × Nat => y = (((.inl (some (.int (b2i X.1)))), (zH X.2.1 X.2.2.1 X.2.2.2.1 X.2.2.2.2.1 X.2.2.2.2.2.1 X.2.2.2.2.2.2.1 X.2.2.2.2.2.2.2.1 X.2.2.2.2.2.2.2.2.1 X.2.2.2.2.2.2.2.2.2.1 X.2.2.2.2.2.2.2.2.2.2)) : (Option Value ⊕ String) × px_H))) x) (u6 : Option Value) (u7 : Option Value) (hu7 : px_cz u7 = true) (u8 : Option Value) : Ev S xs 412 1248 [some (.retAddr 0), some (.ref 0), some (.ref 247), some (.ref 261), some (.ref 262), some (.int a5), u6, u7, u8, none] [] (zH I C Y Γ D O M ou od j) y := by
  have hk : pt_mt[412]? = some pt_r412 := rfl
  unfold fw_law_j1248 at hx
  refine ev_ls (L' := [some (.retAddr 0), some (.ref 0), some (.ref 247), some (.ref 261), some (.ref 262), some (.int a5), u6, u7, u8, none]) (st' := [.ref 0]) (pc' := 1249) hk (.aload_n 1) 1 rfl rfl rfl rfl ?_
  refine ev_ls (L' := [some (.retAddr 0), some (.ref 0), some (.ref 247), some (.ref 261), some (.ref 262), some (.int a5), u6, u7, u8, none]) (st' := [.retAddr 0, .ref 0]) (pc' := 1250) hk (.aload_n 0) 1 rfl rfl rfl rfl ?_
  refine ev_ls (L' := [some (.retAddr 0), some (.ref 0), some (.ref 247), some (.ref 261), some (.ref 262), some (.int a5), u6, u7, u8, none]) (st' := [.int a5, .retAddr 0, .ref 0]) (pc' := 1252) hk (.iload 5) 2 rfl rfl rfl rfl ?_
  refine ev_op (st' := [.int 1, .int a5, .retAddr 0, .ref 0]) (pc' := 1253) hk (.iconst 1) 1 rfl rfl rfl ?_
  refine ev_op (st' := [.int (a5 + 1), .retAddr 0, .ref 0]) (pc' := 1254) hk (.iadd) 1 rfl rfl rfl ?_
  obtain ⟨v672, hv672, hx⟩ := bnd_some hx
  refine ev_sal hv672 1255 hk rfl rfl ?_
  refine ev_ls (L' := [some (.retAddr 0), some (.ref 0), some (.ref 247), some (.ref 261), some (.ref 262), some (.int a5), u6, u7, u8, none]) (st' := [.ref 261, .int v672, .ref 0]) (pc' := 1256) hk (.aload_n 3) 1 rfl rfl rfl rfl ?_
  obtain ⟨v675, ou673, j674, hc676, hx⟩ := bnd3_some hx
  refine ev_cs 384 3 [.int v675] 1259 hk rfl rfl (by decide) rfl rfl rfl (rw_isTraveller hc676) rfl rfl rfl rfl ?_
  refine ev_ls (L' := [some (.retAddr 0), some (.ref 0), some (.ref 247), some (.ref 261), some (.ref 262), some (.int a5), some (.int v675), u7, u8, none]) (st' := []) (pc' := 1261) hk (.istore 6) 2 rfl rfl rfl rfl ?_
  refine ev_ls (L' := [some (.retAddr 0), some (.ref 0), some (.ref 247), some (.ref 261), some (.ref 262), some (.int a5), some (.int v675), u7, u8, none]) (st' := [.ref 247]) (pc' := 1262) hk (.aload_n 2) 1 rfl rfl rfl rfl ?_
  refine ev_ls (L' := [some (.retAddr 0), some (.ref 0), some (.ref 247), some (.ref 261), some (.ref 262), some (.int a5), some (.int v675), u7, u8, none]) (st' := [.retAddr 0, .ref 247]) (pc' := 1263) hk (.aload_n 0) 1 rfl rfl rfl rfl ?_
  refine ev_ls (L' := [some (.retAddr 0), some (.ref 0), some (.ref 247), some (.ref 261), some (.ref 262), some (.int a5), some (.int v675), u7, u8, none]) (st' := [.int a5, .retAddr 0, .ref 247]) (pc' := 1265) hk (.iload 5) 2 rfl rfl rfl rfl ?_
  refine ev_op (st' := [.int 1, .int a5, .retAddr 0, .ref 247]) (pc' := 1266) hk (.iconst 1) 1 rfl rfl rfl ?_
  refine ev_op (st' := [.int (a5 + 1), .retAddr 0, .ref 247]) (pc' := 1267) hk (.iadd) 1 rfl rfl rfl ?_
  obtain ⟨v677, hv677, hx⟩ := bnd_some hx
  refine ev_sal hv677 1268 hk rfl rfl ?_
  obtain ⟨v679, M678, hc680, hx⟩ := bnd2_some hx
  refine ev_cv 99 1 [.int (b2i v679)] 1271 hk rfl rfl rfl rfl lk_model rfl rfl rfl (rM_isTraveller hc680) rfl rfl rfl rfl ?_
  refine ev_ls (L' := [some (.retAddr 0), some (.ref 0), some (.ref 247), some (.ref 261), some (.ref 262), some (.int a5), some (.int v675), some (.int (b2i v679)), u8, none]) (st' := []) (pc' := 1273) hk (.istore 7) 2 rfl rfl rfl rfl ?_
  refine ev_ls (L' := [some (.retAddr 0), some (.ref 0), some (.ref 247), some (.ref 261), some (.ref 262), some (.int a5), some (.int v675), some (.int (b2i v679)), u8, none]) (st' := [.ref 247]) (pc' := 1274) hk (.aload_n 2) 1 rfl rfl rfl rfl ?_
  refine ev_cv 183 0 [.int (fM_thrown M678)] 1277 hk rfl rfl rfl rfl lk_model rfl rfl rfl (rM_thrown rfl) rfl rfl rfl rfl ?_
  refine ev_ls (L' := [some (.retAddr 0), some (.ref 0), some (.ref 247), some (.ref 261), some (.ref 262), some (.int a5), some (.int v675), some (.int (b2i v679)), u8, none]) (st' := [.int v675, .int (fM_thrown M678)]) (pc' := 1279) hk (.iload 6) 2 rfl rfl rfl rfl ?_
  refine ev_d2 1284 1282 hk rfl rfl rfl rfl (px_ceq hx (fun hc hx => ?_) (fun hc hx => ?_))
  · refine ev_ls (L' := [some (.retAddr 0), some (.ref 0), some (.ref 247), some (.ref 261), some (.ref 262), some (.int a5), some (.int v675), some (.int (b2i v679)), u8, none]) (st' := [.int v675]) (pc' := 1286) hk (.iload 6) 2 rfl rfl rfl rfl ?_
    refine ev_d1 1308 1289 hk rfl rfl rfl rfl (px_cne hx (fun hc hx => ?_) (fun hc hx => ?_))
    · refine ev_jp (pc' := 3189) (st' := []) hk (.goto 1881) 3 rfl rfl rfl rfl rfl ?_
      refine ev_ls (L' := [some (.retAddr 0), some (.ref 0), some (.ref 247), some (.ref 261), some (.ref 262), some (.int (a5 + 6)), some (.int v675), some (.int (b2i v679)), u8, none]) (st' := []) (pc' := 3192) hk (.iinc 5 6) 3 rfl rfl rfl rfl ?_
      refine ev_jp (pc' := 28) (st' := []) hk (.goto (-3164)) 3 rfl rfl rfl rfl rfl ?_
      cases hx
      exact hM (some (.int v675)) (some (.int (b2i v679))) rfl u8
    · refine ev_ls (L' := [some (.retAddr 0), some (.ref 0), some (.ref 247), some (.ref 261), some (.ref 262), some (.int a5), some (.int v675), some (.int (b2i v679)), u8, none]) (st' := [.ref 261]) (pc' := 1290) hk (.aload_n 3) 1 rfl rfl rfl rfl ?_
      refine ev_op (st' := [.int 0, .ref 261]) (pc' := 1291) hk (.iconst 0) 1 rfl rfl rfl ?_
      refine ev_lal (v := (ou673 0)) rfl 1292 hk rfl lk_ou rfl ?_
      refine ev_ls (L' := [some (.retAddr 0), some (.ref 0), some (.ref 247), some (.ref 261), some (.ref 262), some (.int a5), some (.int v675), some (.int (b2i v679)), u8, none]) (st' := [.int (b2i v679), .long (ou673 0)]) (pc' := 1294) hk (.iload 7) 2 rfl rfl rfl rfl ?_
      refine ev_d1 1301 1297 hk rfl rfl rfl rfl (px_beq hx (fun hc hx => ?_) (fun hc hx => ?_))
      · refine ev_op (st' := [.long 0, .long (ou673 0)]) (pc' := 1302) hk (.lconst 0) 1 rfl rfl rfl ?_
        exact rw_law_j1302 hx hM (some (.int v675)) rfl (some (.int (b2i v679))) rfl u8
      · refine ev_op (st' := [.long 1, .long (ou673 0)]) (pc' := 1298) hk (.lconst 1) 1 rfl rfl rfl ?_
        refine ev_jp (pc' := 1302) (st' := [.long 1, .long (ou673 0)]) hk (.goto 4) 3 rfl rfl rfl rfl rfl ?_
        exact rw_law_j1302 hx hM (some (.int v675)) rfl (some (.int (b2i v679))) rfl u8
  · refine ev_op (st' := [.int 0]) (pc' := 1283) hk (.iconst 0) 1 rfl rfl rfl ?_
    cases hx
    obtain rfl := hM
    exact ev_retZ false rfl hk rfl rfl
set_option maxRecDepth 4000 in
theorem rw_law_j1311 {S : Nat} {xs : Nat → Int32} {I : zI} {C : zC} {Y : Nat → Int32} {Γ : Nat → zG} {D : zD} {O : Nat → Int32} {M : zM} {ou : Nat → Int64} {od : Nat → UInt64} {j : Nat} {a5 : Int32} {y : (Option Value ⊕ String) × px_H} {x : (zI × zC × (Nat → Int32) × (Nat → zG) × zD × (Nat → Int32) × zM × (Nat → Int64) × (Nat → UInt64) × Nat × Int32) ⊕ (Bool × zI × zC × (Nat → Int32) × (Nat → zG) × zD × (Nat → Int32) × zM × (Nat → Int64) × (Nat → UInt64) × Nat)}  (hx : fw_law_j1311 S xs I C Y Γ D O M ou od j a5 = some x) (hM : (Sum.elim (qw_law_28 S xs y) (fun X : Bool × zI × zC × (Nat → Int32) × (Nat → zG) × zD × (Nat → Int32) × zM × (Nat → Int64) × (Nat → UInt64) × Nat => y = (((.inl (some (.int (b2i X.1)))), (zH X.2.1 X.2.2.1 X.2.2.2.1 X.2.2.2.2.1 X.2.2.2.2.2.1 X.2.2.2.2.2.2.1 X.2.2.2.2.2.2.2.1 X.2.2.2.2.2.2.2.2.1 X.2.2.2.2.2.2.2.2.2.1 X.2.2.2.2.2.2.2.2.2.2)) : (Option Value ⊕ String) × px_H))) x) (u6 : Option Value) (u7 : Option Value) (hu7 : px_cz u7 = true) (u8 : Option Value) : Ev S xs 412 1311 [some (.retAddr 0), some (.ref 0), some (.ref 247), some (.ref 261), some (.ref 262), some (.int a5), u6, u7, u8, none] [] (zH I C Y Γ D O M ou od j) y := by
  have hk : pt_mt[412]? = some pt_r412 := rfl
  unfold fw_law_j1311 at hx
  refine ev_ls (L' := [some (.retAddr 0), some (.ref 0), some (.ref 247), some (.ref 261), some (.ref 262), some (.int a5), u6, u7, u8, none]) (st' := [.ref 0]) (pc' := 1312) hk (.aload_n 1) 1 rfl rfl rfl rfl ?_
  refine ev_ls (L' := [some (.retAddr 0), some (.ref 0), some (.ref 247), some (.ref 261), some (.ref 262), some (.int a5), u6, u7, u8, none]) (st' := [.retAddr 0, .ref 0]) (pc' := 1313) hk (.aload_n 0) 1 rfl rfl rfl rfl ?_
  refine ev_ls (L' := [some (.retAddr 0), some (.ref 0), some (.ref 247), some (.ref 261), some (.ref 262), some (.int a5), u6, u7, u8, none]) (st' := [.int a5, .retAddr 0, .ref 0]) (pc' := 1315) hk (.iload 5) 2 rfl rfl rfl rfl ?_
  refine ev_op (st' := [.int 1, .int a5, .retAddr 0, .ref 0]) (pc' := 1316) hk (.iconst 1) 1 rfl rfl rfl ?_
  refine ev_op (st' := [.int (a5 + 1), .retAddr 0, .ref 0]) (pc' := 1317) hk (.iadd) 1 rfl rfl rfl ?_
  obtain ⟨v681, hv681, hx⟩ := bnd_some hx
  refine ev_sal hv681 1318 hk rfl rfl ?_
  refine ev_ls (L' := [some (.retAddr 0), some (.ref 0), some (.ref 247), some (.ref 261), some (.ref 262), some (.int a5), u6, u7, u8, none]) (st' := [.ref 261, .int v681, .ref 0]) (pc' := 1319) hk (.aload_n 3) 1 rfl rfl rfl rfl ?_
  obtain ⟨v684, ou682, j683, hc685, hx⟩ := bnd3_some hx
  refine ev_cs 371 3 [.int v684] 1322 hk rfl rfl (by decide) rfl rfl rfl (rw_bandOf hc685) rfl rfl rfl rfl ?_
  refine ev_ls (L' := [some (.retAddr 0), some (.ref 0), some (.ref 247), some (.ref 261), some (.ref 262), some (.int a5), some (.int v684), u7, u8, none]) (st' := []) (pc' := 1324) hk (.istore 6) 2 rfl rfl rfl rfl ?_
  refine ev_ls (L' := [some (.retAddr 0), some (.ref 0), some (.ref 247), some (.ref 261), some (.ref 262), some (.int a5), some (.int v684), u7, u8, none]) (st' := [.ref 247]) (pc' := 1325) hk (.aload_n 2) 1 rfl rfl rfl rfl ?_
  refine ev_ls (L' := [some (.retAddr 0), some (.ref 0), some (.ref 247), some (.ref 261), some (.ref 262), some (.int a5), some (.int v684), u7, u8, none]) (st' := [.retAddr 0, .ref 247]) (pc' := 1326) hk (.aload_n 0) 1 rfl rfl rfl rfl ?_
  refine ev_ls (L' := [some (.retAddr 0), some (.ref 0), some (.ref 247), some (.ref 261), some (.ref 262), some (.int a5), some (.int v684), u7, u8, none]) (st' := [.int a5, .retAddr 0, .ref 247]) (pc' := 1328) hk (.iload 5) 2 rfl rfl rfl rfl ?_
  refine ev_op (st' := [.int 1, .int a5, .retAddr 0, .ref 247]) (pc' := 1329) hk (.iconst 1) 1 rfl rfl rfl ?_
  refine ev_op (st' := [.int (a5 + 1), .retAddr 0, .ref 247]) (pc' := 1330) hk (.iadd) 1 rfl rfl rfl ?_
  obtain ⟨v686, hv686, hx⟩ := bnd_some hx
  refine ev_sal hv686 1331 hk rfl rfl ?_
  obtain ⟨v688, M687, hc689, hx⟩ := bnd2_some hx
  refine ev_cv 25 1 [.int v688] 1334 hk rfl rfl rfl rfl lk_model rfl rfl rfl (rM_bandOf hc689) rfl rfl rfl rfl ?_
  refine ev_ls (L' := [some (.retAddr 0), some (.ref 0), some (.ref 247), some (.ref 261), some (.ref 262), some (.int a5), some (.int v684), some (.int v688), u8, none]) (st' := []) (pc' := 1336) hk (.istore 7) 2 rfl rfl rfl rfl ?_
  refine ev_ls (L' := [some (.retAddr 0), some (.ref 0), some (.ref 247), some (.ref 261), some (.ref 262), some (.int a5), some (.int v684), some (.int v688), u8, none]) (st' := [.ref 247]) (pc' := 1337) hk (.aload_n 2) 1 rfl rfl rfl rfl ?_
  refine ev_cv 183 0 [.int (fM_thrown M687)] 1340 hk rfl rfl rfl rfl lk_model rfl rfl rfl (rM_thrown rfl) rfl rfl rfl rfl ?_
  refine ev_ls (L' := [some (.retAddr 0), some (.ref 0), some (.ref 247), some (.ref 261), some (.ref 262), some (.int a5), some (.int v684), some (.int v688), u8, none]) (st' := [.int v684, .int (fM_thrown M687)]) (pc' := 1342) hk (.iload 6) 2 rfl rfl rfl rfl ?_
  refine ev_d2 1347 1345 hk rfl rfl rfl rfl (px_ceq hx (fun hc hx => ?_) (fun hc hx => ?_))
  · refine ev_ls (L' := [some (.retAddr 0), some (.ref 0), some (.ref 247), some (.ref 261), some (.ref 262), some (.int a5), some (.int v684), some (.int v688), u8, none]) (st' := [.int v684]) (pc' := 1349) hk (.iload 6) 2 rfl rfl rfl rfl ?_
    refine ev_d1 1364 1352 hk rfl rfl rfl rfl (px_cne hx (fun hc hx => ?_) (fun hc hx => ?_))
    · refine ev_jp (pc' := 3189) (st' := []) hk (.goto 1825) 3 rfl rfl rfl rfl rfl ?_
      refine ev_ls (L' := [some (.retAddr 0), some (.ref 0), some (.ref 247), some (.ref 261), some (.ref 262), some (.int (a5 + 6)), some (.int v684), some (.int v688), u8, none]) (st' := []) (pc' := 3192) hk (.iinc 5 6) 3 rfl rfl rfl rfl ?_
      refine ev_jp (pc' := 28) (st' := []) hk (.goto (-3164)) 3 rfl rfl rfl rfl rfl ?_
      cases hx
      exact hM (some (.int v684)) (some (.int v688)) rfl u8
    · refine ev_ls (L' := [some (.retAddr 0), some (.ref 0), some (.ref 247), some (.ref 261), some (.ref 262), some (.int a5), some (.int v684), some (.int v688), u8, none]) (st' := [.ref 261]) (pc' := 1353) hk (.aload_n 3) 1 rfl rfl rfl rfl ?_
      refine ev_op (st' := [.int 0, .ref 261]) (pc' := 1354) hk (.iconst 0) 1 rfl rfl rfl ?_
      refine ev_lal (v := (ou682 0)) rfl 1355 hk rfl lk_ou rfl ?_
      refine ev_ls (L' := [some (.retAddr 0), some (.ref 0), some (.ref 247), some (.ref 261), some (.ref 262), some (.int a5), some (.int v684), some (.int v688), u8, none]) (st' := [.int v688, .long (ou682 0)]) (pc' := 1357) hk (.iload 7) 2 rfl rfl rfl rfl ?_
      refine ev_op (st' := [.long (Int32.toInt64 v688), .long (ou682 0)]) (pc' := 1358) hk (.i2l) 1 rfl rfl rfl ?_
      refine ev_op (st' := [.int (lg_cmp (ou682 0) (Int32.toInt64 v688))]) (pc' := 1359) hk (.lcmp) 1 rfl rfl rfl ?_
      refine ev_d1 1364 1362 hk rfl rfl rfl rfl (px_leq hx (fun hc hx => ?_) (fun hc hx => ?_))
      · refine ev_jp (pc' := 3189) (st' := []) hk (.goto 1825) 3 rfl rfl rfl rfl rfl ?_
        refine ev_ls (L' := [some (.retAddr 0), some (.ref 0), some (.ref 247), some (.ref 261), some (.ref 262), some (.int (a5 + 6)), some (.int v684), some (.int v688), u8, none]) (st' := []) (pc' := 3192) hk (.iinc 5 6) 3 rfl rfl rfl rfl ?_
        refine ev_jp (pc' := 28) (st' := []) hk (.goto (-3164)) 3 rfl rfl rfl rfl rfl ?_
        cases hx
        exact hM (some (.int v684)) (some (.int v688)) rfl u8
      · refine ev_op (st' := [.int 0]) (pc' := 1363) hk (.iconst 0) 1 rfl rfl rfl ?_
        cases hx
        obtain rfl := hM
        exact ev_retZ false rfl hk rfl rfl
  · refine ev_op (st' := [.int 0]) (pc' := 1346) hk (.iconst 0) 1 rfl rfl rfl ?_
    cases hx
    obtain rfl := hM
    exact ev_retZ false rfl hk rfl rfl
set_option maxRecDepth 4000 in
theorem rw_law_j1367 {S : Nat} {xs : Nat → Int32} {I : zI} {C : zC} {Y : Nat → Int32} {Γ : Nat → zG} {D : zD} {O : Nat → Int32} {M : zM} {ou : Nat → Int64} {od : Nat → UInt64} {j : Nat} {a5 : Int32} {y : (Option Value ⊕ String) × px_H} {x : (zI × zC × (Nat → Int32) × (Nat → zG) × zD × (Nat → Int32) × zM × (Nat → Int64) × (Nat → UInt64) × Nat × Int32) ⊕ (Bool × zI × zC × (Nat → Int32) × (Nat → zG) × zD × (Nat → Int32) × zM × (Nat → Int64) × (Nat → UInt64) × Nat)}  (hx : fw_law_j1367 S xs I C Y Γ D O M ou od j a5 = some x) (hM : (Sum.elim (qw_law_28 S xs y) (fun X : Bool × zI × zC × (Nat → Int32) × (Nat → zG) × zD × (Nat → Int32) × zM × (Nat → Int64) × (Nat → UInt64) × Nat => y = (((.inl (some (.int (b2i X.1)))), (zH X.2.1 X.2.2.1 X.2.2.2.1 X.2.2.2.2.1 X.2.2.2.2.2.1 X.2.2.2.2.2.2.1 X.2.2.2.2.2.2.2.1 X.2.2.2.2.2.2.2.2.1 X.2.2.2.2.2.2.2.2.2.1 X.2.2.2.2.2.2.2.2.2.2)) : (Option Value ⊕ String) × px_H))) x) (u6 : Option Value) (u7 : Option Value) (hu7 : px_cz u7 = true) (u8 : Option Value) : Ev S xs 412 1367 [some (.retAddr 0), some (.ref 0), some (.ref 247), some (.ref 261), some (.ref 262), some (.int a5), u6, u7, u8, none] [] (zH I C Y Γ D O M ou od j) y := by
  have hk : pt_mt[412]? = some pt_r412 := rfl
  unfold fw_law_j1367 at hx
  refine ev_ls (L' := [some (.retAddr 0), some (.ref 0), some (.ref 247), some (.ref 261), some (.ref 262), some (.int a5), u6, u7, u8, none]) (st' := [.ref 0]) (pc' := 1368) hk (.aload_n 1) 1 rfl rfl rfl rfl ?_
  refine ev_ls (L' := [some (.retAddr 0), some (.ref 0), some (.ref 247), some (.ref 261), some (.ref 262), some (.int a5), u6, u7, u8, none]) (st' := [.retAddr 0, .ref 0]) (pc' := 1369) hk (.aload_n 0) 1 rfl rfl rfl rfl ?_
  refine ev_ls (L' := [some (.retAddr 0), some (.ref 0), some (.ref 247), some (.ref 261), some (.ref 262), some (.int a5), u6, u7, u8, none]) (st' := [.int a5, .retAddr 0, .ref 0]) (pc' := 1371) hk (.iload 5) 2 rfl rfl rfl rfl ?_
  refine ev_op (st' := [.int 1, .int a5, .retAddr 0, .ref 0]) (pc' := 1372) hk (.iconst 1) 1 rfl rfl rfl ?_
  refine ev_op (st' := [.int (a5 + 1), .retAddr 0, .ref 0]) (pc' := 1373) hk (.iadd) 1 rfl rfl rfl ?_
  obtain ⟨v690, hv690, hx⟩ := bnd_some hx
  refine ev_sal hv690 1374 hk rfl rfl ?_
  refine ev_ls (L' := [some (.retAddr 0), some (.ref 0), some (.ref 247), some (.ref 261), some (.ref 262), some (.int a5), u6, u7, u8, none]) (st' := [.ref 261, .int v690, .ref 0]) (pc' := 1375) hk (.aload_n 3) 1 rfl rfl rfl rfl ?_
  obtain ⟨v693, ou691, j692, hc694, hx⟩ := bnd3_some hx
  refine ev_cs 393 3 [.int v693] 1378 hk rfl rfl (by decide) rfl rfl rfl (rw_meridianOf hc694) rfl rfl rfl rfl ?_
  refine ev_ls (L' := [some (.retAddr 0), some (.ref 0), some (.ref 247), some (.ref 261), some (.ref 262), some (.int a5), some (.int v693), u7, u8, none]) (st' := []) (pc' := 1380) hk (.istore 6) 2 rfl rfl rfl rfl ?_
  refine ev_ls (L' := [some (.retAddr 0), some (.ref 0), some (.ref 247), some (.ref 261), some (.ref 262), some (.int a5), some (.int v693), u7, u8, none]) (st' := [.ref 247]) (pc' := 1381) hk (.aload_n 2) 1 rfl rfl rfl rfl ?_
  refine ev_ls (L' := [some (.retAddr 0), some (.ref 0), some (.ref 247), some (.ref 261), some (.ref 262), some (.int a5), some (.int v693), u7, u8, none]) (st' := [.retAddr 0, .ref 247]) (pc' := 1382) hk (.aload_n 0) 1 rfl rfl rfl rfl ?_
  refine ev_ls (L' := [some (.retAddr 0), some (.ref 0), some (.ref 247), some (.ref 261), some (.ref 262), some (.int a5), some (.int v693), u7, u8, none]) (st' := [.int a5, .retAddr 0, .ref 247]) (pc' := 1384) hk (.iload 5) 2 rfl rfl rfl rfl ?_
  refine ev_op (st' := [.int 1, .int a5, .retAddr 0, .ref 247]) (pc' := 1385) hk (.iconst 1) 1 rfl rfl rfl ?_
  refine ev_op (st' := [.int (a5 + 1), .retAddr 0, .ref 247]) (pc' := 1386) hk (.iadd) 1 rfl rfl rfl ?_
  obtain ⟨v695, hv695, hx⟩ := bnd_some hx
  refine ev_sal hv695 1387 hk rfl rfl ?_
  obtain ⟨v697, M696, hc698, hx⟩ := bnd2_some hx
  refine ev_cv 135 1 [.int v697] 1390 hk rfl rfl rfl rfl lk_model rfl rfl rfl (rM_meridianOf hc698) rfl rfl rfl rfl ?_
  refine ev_ls (L' := [some (.retAddr 0), some (.ref 0), some (.ref 247), some (.ref 261), some (.ref 262), some (.int a5), some (.int v693), some (.int v697), u8, none]) (st' := []) (pc' := 1392) hk (.istore 7) 2 rfl rfl rfl rfl ?_
  refine ev_ls (L' := [some (.retAddr 0), some (.ref 0), some (.ref 247), some (.ref 261), some (.ref 262), some (.int a5), some (.int v693), some (.int v697), u8, none]) (st' := [.ref 247]) (pc' := 1393) hk (.aload_n 2) 1 rfl rfl rfl rfl ?_
  refine ev_cv 183 0 [.int (fM_thrown M696)] 1396 hk rfl rfl rfl rfl lk_model rfl rfl rfl (rM_thrown rfl) rfl rfl rfl rfl ?_
  refine ev_ls (L' := [some (.retAddr 0), some (.ref 0), some (.ref 247), some (.ref 261), some (.ref 262), some (.int a5), some (.int v693), some (.int v697), u8, none]) (st' := [.int v693, .int (fM_thrown M696)]) (pc' := 1398) hk (.iload 6) 2 rfl rfl rfl rfl ?_
  refine ev_d2 1403 1401 hk rfl rfl rfl rfl (px_ceq hx (fun hc hx => ?_) (fun hc hx => ?_))
  · refine ev_ls (L' := [some (.retAddr 0), some (.ref 0), some (.ref 247), some (.ref 261), some (.ref 262), some (.int a5), some (.int v693), some (.int v697), u8, none]) (st' := [.int v693]) (pc' := 1405) hk (.iload 6) 2 rfl rfl rfl rfl ?_
    refine ev_d1 1420 1408 hk rfl rfl rfl rfl (px_cne hx (fun hc hx => ?_) (fun hc hx => ?_))
    · refine ev_jp (pc' := 3189) (st' := []) hk (.goto 1769) 3 rfl rfl rfl rfl rfl ?_
      refine ev_ls (L' := [some (.retAddr 0), some (.ref 0), some (.ref 247), some (.ref 261), some (.ref 262), some (.int (a5 + 6)), some (.int v693), some (.int v697), u8, none]) (st' := []) (pc' := 3192) hk (.iinc 5 6) 3 rfl rfl rfl rfl ?_
      refine ev_jp (pc' := 28) (st' := []) hk (.goto (-3164)) 3 rfl rfl rfl rfl rfl ?_
      cases hx
      exact hM (some (.int v693)) (some (.int v697)) rfl u8
    · refine ev_ls (L' := [some (.retAddr 0), some (.ref 0), some (.ref 247), some (.ref 261), some (.ref 262), some (.int a5), some (.int v693), some (.int v697), u8, none]) (st' := [.ref 261]) (pc' := 1409) hk (.aload_n 3) 1 rfl rfl rfl rfl ?_
      refine ev_op (st' := [.int 0, .ref 261]) (pc' := 1410) hk (.iconst 0) 1 rfl rfl rfl ?_
      refine ev_lal (v := (ou691 0)) rfl 1411 hk rfl lk_ou rfl ?_
      refine ev_ls (L' := [some (.retAddr 0), some (.ref 0), some (.ref 247), some (.ref 261), some (.ref 262), some (.int a5), some (.int v693), some (.int v697), u8, none]) (st' := [.int v697, .long (ou691 0)]) (pc' := 1413) hk (.iload 7) 2 rfl rfl rfl rfl ?_
      refine ev_op (st' := [.long (Int32.toInt64 v697), .long (ou691 0)]) (pc' := 1414) hk (.i2l) 1 rfl rfl rfl ?_
      refine ev_op (st' := [.int (lg_cmp (ou691 0) (Int32.toInt64 v697))]) (pc' := 1415) hk (.lcmp) 1 rfl rfl rfl ?_
      refine ev_d1 1420 1418 hk rfl rfl rfl rfl (px_leq hx (fun hc hx => ?_) (fun hc hx => ?_))
      · refine ev_jp (pc' := 3189) (st' := []) hk (.goto 1769) 3 rfl rfl rfl rfl rfl ?_
        refine ev_ls (L' := [some (.retAddr 0), some (.ref 0), some (.ref 247), some (.ref 261), some (.ref 262), some (.int (a5 + 6)), some (.int v693), some (.int v697), u8, none]) (st' := []) (pc' := 3192) hk (.iinc 5 6) 3 rfl rfl rfl rfl ?_
        refine ev_jp (pc' := 28) (st' := []) hk (.goto (-3164)) 3 rfl rfl rfl rfl rfl ?_
        cases hx
        exact hM (some (.int v693)) (some (.int v697)) rfl u8
      · refine ev_op (st' := [.int 0]) (pc' := 1419) hk (.iconst 0) 1 rfl rfl rfl ?_
        cases hx
        obtain rfl := hM
        exact ev_retZ false rfl hk rfl rfl
  · refine ev_op (st' := [.int 0]) (pc' := 1402) hk (.iconst 0) 1 rfl rfl rfl ?_
    cases hx
    obtain rfl := hM
    exact ev_retZ false rfl hk rfl rfl
set_option maxRecDepth 4000 in
theorem rw_law_j1423 {S : Nat} {xs : Nat → Int32} {I : zI} {C : zC} {Y : Nat → Int32} {Γ : Nat → zG} {D : zD} {O : Nat → Int32} {M : zM} {ou : Nat → Int64} {od : Nat → UInt64} {j : Nat} {a5 : Int32} {y : (Option Value ⊕ String) × px_H} {x : (zI × zC × (Nat → Int32) × (Nat → zG) × zD × (Nat → Int32) × zM × (Nat → Int64) × (Nat → UInt64) × Nat × Int32) ⊕ (Bool × zI × zC × (Nat → Int32) × (Nat → zG) × zD × (Nat → Int32) × zM × (Nat → Int64) × (Nat → UInt64) × Nat)}  (hx : fw_law_j1423 S xs I C Y Γ D O M ou od j a5 = some x) (hM : (Sum.elim (qw_law_28 S xs y) (fun X : Bool × zI × zC × (Nat → Int32) × (Nat → zG) × zD × (Nat → Int32) × zM × (Nat → Int64) × (Nat → UInt64) × Nat => y = (((.inl (some (.int (b2i X.1)))), (zH X.2.1 X.2.2.1 X.2.2.2.1 X.2.2.2.2.1 X.2.2.2.2.2.1 X.2.2.2.2.2.2.1 X.2.2.2.2.2.2.2.1 X.2.2.2.2.2.2.2.2.1 X.2.2.2.2.2.2.2.2.2.1 X.2.2.2.2.2.2.2.2.2.2)) : (Option Value ⊕ String) × px_H))) x) (u6 : Option Value) (u7 : Option Value) (hu7 : px_cz u7 = true) (u8 : Option Value) : Ev S xs 412 1423 [some (.retAddr 0), some (.ref 0), some (.ref 247), some (.ref 261), some (.ref 262), some (.int a5), u6, u7, u8, none] [] (zH I C Y Γ D O M ou od j) y := by
  have hk : pt_mt[412]? = some pt_r412 := rfl
  unfold fw_law_j1423 at hx
  refine ev_ls (L' := [some (.retAddr 0), some (.ref 0), some (.ref 247), some (.ref 261), some (.ref 262), some (.int a5), u6, u7, u8, none]) (st' := [.ref 0]) (pc' := 1424) hk (.aload_n 1) 1 rfl rfl rfl rfl ?_
  refine ev_ls (L' := [some (.retAddr 0), some (.ref 0), some (.ref 247), some (.ref 261), some (.ref 262), some (.int a5), u6, u7, u8, none]) (st' := [.retAddr 0, .ref 0]) (pc' := 1425) hk (.aload_n 0) 1 rfl rfl rfl rfl ?_
  refine ev_ls (L' := [some (.retAddr 0), some (.ref 0), some (.ref 247), some (.ref 261), some (.ref 262), some (.int a5), u6, u7, u8, none]) (st' := [.int a5, .retAddr 0, .ref 0]) (pc' := 1427) hk (.iload 5) 2 rfl rfl rfl rfl ?_
  refine ev_op (st' := [.int 1, .int a5, .retAddr 0, .ref 0]) (pc' := 1428) hk (.iconst 1) 1 rfl rfl rfl ?_
  refine ev_op (st' := [.int (a5 + 1), .retAddr 0, .ref 0]) (pc' := 1429) hk (.iadd) 1 rfl rfl rfl ?_
  obtain ⟨v699, hv699, hx⟩ := bnd_some hx
  refine ev_sal hv699 1430 hk rfl rfl ?_
  refine ev_ls (L' := [some (.retAddr 0), some (.ref 0), some (.ref 247), some (.ref 261), some (.ref 262), some (.int a5), u6, u7, u8, none]) (st' := [.ref 261, .int v699, .ref 0]) (pc' := 1431) hk (.aload_n 3) 1 rfl rfl rfl rfl ?_
  obtain ⟨v702, ou700, j701, hc703, hx⟩ := bnd3_some hx
  refine ev_cs 375 3 [.int v702] 1434 hk rfl rfl (by decide) rfl rfl rfl (rw_dayOf hc703) rfl rfl rfl rfl ?_
  refine ev_ls (L' := [some (.retAddr 0), some (.ref 0), some (.ref 247), some (.ref 261), some (.ref 262), some (.int a5), some (.int v702), u7, u8, none]) (st' := []) (pc' := 1436) hk (.istore 6) 2 rfl rfl rfl rfl ?_
  refine ev_ls (L' := [some (.retAddr 0), some (.ref 0), some (.ref 247), some (.ref 261), some (.ref 262), some (.int a5), some (.int v702), u7, u8, none]) (st' := [.ref 247]) (pc' := 1437) hk (.aload_n 2) 1 rfl rfl rfl rfl ?_
  refine ev_ls (L' := [some (.retAddr 0), some (.ref 0), some (.ref 247), some (.ref 261), some (.ref 262), some (.int a5), some (.int v702), u7, u8, none]) (st' := [.retAddr 0, .ref 247]) (pc' := 1438) hk (.aload_n 0) 1 rfl rfl rfl rfl ?_
  refine ev_ls (L' := [some (.retAddr 0), some (.ref 0), some (.ref 247), some (.ref 261), some (.ref 262), some (.int a5), some (.int v702), u7, u8, none]) (st' := [.int a5, .retAddr 0, .ref 247]) (pc' := 1440) hk (.iload 5) 2 rfl rfl rfl rfl ?_
  refine ev_op (st' := [.int 1, .int a5, .retAddr 0, .ref 247]) (pc' := 1441) hk (.iconst 1) 1 rfl rfl rfl ?_
  refine ev_op (st' := [.int (a5 + 1), .retAddr 0, .ref 247]) (pc' := 1442) hk (.iadd) 1 rfl rfl rfl ?_
  obtain ⟨v704, hv704, hx⟩ := bnd_some hx
  refine ev_sal hv704 1443 hk rfl rfl ?_
  obtain ⟨v706, M705, hc707, hx⟩ := bnd2_some hx
  refine ev_cv 44 1 [.int v706] 1446 hk rfl rfl rfl rfl lk_model rfl rfl rfl (rM_dayOf hc707) rfl rfl rfl rfl ?_
  refine ev_ls (L' := [some (.retAddr 0), some (.ref 0), some (.ref 247), some (.ref 261), some (.ref 262), some (.int a5), some (.int v702), some (.int v706), u8, none]) (st' := []) (pc' := 1448) hk (.istore 7) 2 rfl rfl rfl rfl ?_
  refine ev_ls (L' := [some (.retAddr 0), some (.ref 0), some (.ref 247), some (.ref 261), some (.ref 262), some (.int a5), some (.int v702), some (.int v706), u8, none]) (st' := [.ref 247]) (pc' := 1449) hk (.aload_n 2) 1 rfl rfl rfl rfl ?_
  refine ev_cv 183 0 [.int (fM_thrown M705)] 1452 hk rfl rfl rfl rfl lk_model rfl rfl rfl (rM_thrown rfl) rfl rfl rfl rfl ?_
  refine ev_ls (L' := [some (.retAddr 0), some (.ref 0), some (.ref 247), some (.ref 261), some (.ref 262), some (.int a5), some (.int v702), some (.int v706), u8, none]) (st' := [.int v702, .int (fM_thrown M705)]) (pc' := 1454) hk (.iload 6) 2 rfl rfl rfl rfl ?_
  refine ev_d2 1459 1457 hk rfl rfl rfl rfl (px_ceq hx (fun hc hx => ?_) (fun hc hx => ?_))
  · refine ev_ls (L' := [some (.retAddr 0), some (.ref 0), some (.ref 247), some (.ref 261), some (.ref 262), some (.int a5), some (.int v702), some (.int v706), u8, none]) (st' := [.int v702]) (pc' := 1461) hk (.iload 6) 2 rfl rfl rfl rfl ?_
    refine ev_d1 1476 1464 hk rfl rfl rfl rfl (px_cne hx (fun hc hx => ?_) (fun hc hx => ?_))
    · refine ev_jp (pc' := 3189) (st' := []) hk (.goto 1713) 3 rfl rfl rfl rfl rfl ?_
      refine ev_ls (L' := [some (.retAddr 0), some (.ref 0), some (.ref 247), some (.ref 261), some (.ref 262), some (.int (a5 + 6)), some (.int v702), some (.int v706), u8, none]) (st' := []) (pc' := 3192) hk (.iinc 5 6) 3 rfl rfl rfl rfl ?_
      refine ev_jp (pc' := 28) (st' := []) hk (.goto (-3164)) 3 rfl rfl rfl rfl rfl ?_
      cases hx
      exact hM (some (.int v702)) (some (.int v706)) rfl u8
    · refine ev_ls (L' := [some (.retAddr 0), some (.ref 0), some (.ref 247), some (.ref 261), some (.ref 262), some (.int a5), some (.int v702), some (.int v706), u8, none]) (st' := [.ref 261]) (pc' := 1465) hk (.aload_n 3) 1 rfl rfl rfl rfl ?_
      refine ev_op (st' := [.int 0, .ref 261]) (pc' := 1466) hk (.iconst 0) 1 rfl rfl rfl ?_
      refine ev_lal (v := (ou700 0)) rfl 1467 hk rfl lk_ou rfl ?_
      refine ev_ls (L' := [some (.retAddr 0), some (.ref 0), some (.ref 247), some (.ref 261), some (.ref 262), some (.int a5), some (.int v702), some (.int v706), u8, none]) (st' := [.int v706, .long (ou700 0)]) (pc' := 1469) hk (.iload 7) 2 rfl rfl rfl rfl ?_
      refine ev_op (st' := [.long (Int32.toInt64 v706), .long (ou700 0)]) (pc' := 1470) hk (.i2l) 1 rfl rfl rfl ?_
      refine ev_op (st' := [.int (lg_cmp (ou700 0) (Int32.toInt64 v706))]) (pc' := 1471) hk (.lcmp) 1 rfl rfl rfl ?_
      refine ev_d1 1476 1474 hk rfl rfl rfl rfl (px_leq hx (fun hc hx => ?_) (fun hc hx => ?_))
      · refine ev_jp (pc' := 3189) (st' := []) hk (.goto 1713) 3 rfl rfl rfl rfl rfl ?_
        refine ev_ls (L' := [some (.retAddr 0), some (.ref 0), some (.ref 247), some (.ref 261), some (.ref 262), some (.int (a5 + 6)), some (.int v702), some (.int v706), u8, none]) (st' := []) (pc' := 3192) hk (.iinc 5 6) 3 rfl rfl rfl rfl ?_
        refine ev_jp (pc' := 28) (st' := []) hk (.goto (-3164)) 3 rfl rfl rfl rfl rfl ?_
        cases hx
        exact hM (some (.int v702)) (some (.int v706)) rfl u8
      · refine ev_op (st' := [.int 0]) (pc' := 1475) hk (.iconst 0) 1 rfl rfl rfl ?_
        cases hx
        obtain rfl := hM
        exact ev_retZ false rfl hk rfl rfl
  · refine ev_op (st' := [.int 0]) (pc' := 1458) hk (.iconst 0) 1 rfl rfl rfl ?_
    cases hx
    obtain rfl := hM
    exact ev_retZ false rfl hk rfl rfl
set_option maxRecDepth 4000 in
theorem rw_law_j1479 {S : Nat} {xs : Nat → Int32} {I : zI} {C : zC} {Y : Nat → Int32} {Γ : Nat → zG} {D : zD} {O : Nat → Int32} {M : zM} {ou : Nat → Int64} {od : Nat → UInt64} {j : Nat} {a5 : Int32} {y : (Option Value ⊕ String) × px_H} {x : (zI × zC × (Nat → Int32) × (Nat → zG) × zD × (Nat → Int32) × zM × (Nat → Int64) × (Nat → UInt64) × Nat × Int32) ⊕ (Bool × zI × zC × (Nat → Int32) × (Nat → zG) × zD × (Nat → Int32) × zM × (Nat → Int64) × (Nat → UInt64) × Nat)}  (hx : fw_law_j1479 S xs I C Y Γ D O M ou od j a5 = some x) (hM : (Sum.elim (qw_law_28 S xs y) (fun X : Bool × zI × zC × (Nat → Int32) × (Nat → zG) × zD × (Nat → Int32) × zM × (Nat → Int64) × (Nat → UInt64) × Nat => y = (((.inl (some (.int (b2i X.1)))), (zH X.2.1 X.2.2.1 X.2.2.2.1 X.2.2.2.2.1 X.2.2.2.2.2.1 X.2.2.2.2.2.2.1 X.2.2.2.2.2.2.2.1 X.2.2.2.2.2.2.2.2.1 X.2.2.2.2.2.2.2.2.2.1 X.2.2.2.2.2.2.2.2.2.2)) : (Option Value ⊕ String) × px_H))) x) (u6 : Option Value) (u7 : Option Value) (hu7 : px_cz u7 = true) (u8 : Option Value) : Ev S xs 412 1479 [some (.retAddr 0), some (.ref 0), some (.ref 247), some (.ref 261), some (.ref 262), some (.int a5), u6, u7, u8, none] [] (zH I C Y Γ D O M ou od j) y := by
  have hk : pt_mt[412]? = some pt_r412 := rfl
  unfold fw_law_j1479 at hx
  refine ev_ls (L' := [some (.retAddr 0), some (.ref 0), some (.ref 247), some (.ref 261), some (.ref 262), some (.int a5), u6, u7, u8, none]) (st' := [.ref 0]) (pc' := 1480) hk (.aload_n 1) 1 rfl rfl rfl rfl ?_
  refine ev_ls (L' := [some (.retAddr 0), some (.ref 0), some (.ref 247), some (.ref 261), some (.ref 262), some (.int a5), u6, u7, u8, none]) (st' := [.retAddr 0, .ref 0]) (pc' := 1481) hk (.aload_n 0) 1 rfl rfl rfl rfl ?_
  refine ev_ls (L' := [some (.retAddr 0), some (.ref 0), some (.ref 247), some (.ref 261), some (.ref 262), some (.int a5), u6, u7, u8, none]) (st' := [.int a5, .retAddr 0, .ref 0]) (pc' := 1483) hk (.iload 5) 2 rfl rfl rfl rfl ?_
  refine ev_op (st' := [.int 1, .int a5, .retAddr 0, .ref 0]) (pc' := 1484) hk (.iconst 1) 1 rfl rfl rfl ?_
  refine ev_op (st' := [.int (a5 + 1), .retAddr 0, .ref 0]) (pc' := 1485) hk (.iadd) 1 rfl rfl rfl ?_
  obtain ⟨v708, hv708, hx⟩ := bnd_some hx
  refine ev_sal hv708 1486 hk rfl rfl ?_
  refine ev_ls (L' := [some (.retAddr 0), some (.ref 0), some (.ref 247), some (.ref 261), some (.ref 262), some (.int a5), u6, u7, u8, none]) (st' := [.ref 261, .int v708, .ref 0]) (pc' := 1487) hk (.aload_n 3) 1 rfl rfl rfl rfl ?_
  obtain ⟨v711, ou709, j710, hc712, hx⟩ := bnd3_some hx
  refine ev_cs 376 3 [.int v711] 1490 hk rfl rfl (by decide) rfl rfl rfl (rw_degreesLeft hc712) rfl rfl rfl rfl ?_
  refine ev_ls (L' := [some (.retAddr 0), some (.ref 0), some (.ref 247), some (.ref 261), some (.ref 262), some (.int a5), some (.int v711), u7, u8, none]) (st' := []) (pc' := 1492) hk (.istore 6) 2 rfl rfl rfl rfl ?_
  refine ev_ls (L' := [some (.retAddr 0), some (.ref 0), some (.ref 247), some (.ref 261), some (.ref 262), some (.int a5), some (.int v711), u7, u8, none]) (st' := [.ref 247]) (pc' := 1493) hk (.aload_n 2) 1 rfl rfl rfl rfl ?_
  refine ev_ls (L' := [some (.retAddr 0), some (.ref 0), some (.ref 247), some (.ref 261), some (.ref 262), some (.int a5), some (.int v711), u7, u8, none]) (st' := [.retAddr 0, .ref 247]) (pc' := 1494) hk (.aload_n 0) 1 rfl rfl rfl rfl ?_
  refine ev_ls (L' := [some (.retAddr 0), some (.ref 0), some (.ref 247), some (.ref 261), some (.ref 262), some (.int a5), some (.int v711), u7, u8, none]) (st' := [.int a5, .retAddr 0, .ref 247]) (pc' := 1496) hk (.iload 5) 2 rfl rfl rfl rfl ?_
  refine ev_op (st' := [.int 1, .int a5, .retAddr 0, .ref 247]) (pc' := 1497) hk (.iconst 1) 1 rfl rfl rfl ?_
  refine ev_op (st' := [.int (a5 + 1), .retAddr 0, .ref 247]) (pc' := 1498) hk (.iadd) 1 rfl rfl rfl ?_
  obtain ⟨v713, hv713, hx⟩ := bnd_some hx
  refine ev_sal hv713 1499 hk rfl rfl ?_
  obtain ⟨v715, M714, hc716, hx⟩ := bnd2_some hx
  refine ev_cv 45 1 [.int v715] 1502 hk rfl rfl rfl rfl lk_model rfl rfl rfl (rM_degreesLeft hc716) rfl rfl rfl rfl ?_
  refine ev_ls (L' := [some (.retAddr 0), some (.ref 0), some (.ref 247), some (.ref 261), some (.ref 262), some (.int a5), some (.int v711), some (.int v715), u8, none]) (st' := []) (pc' := 1504) hk (.istore 7) 2 rfl rfl rfl rfl ?_
  refine ev_ls (L' := [some (.retAddr 0), some (.ref 0), some (.ref 247), some (.ref 261), some (.ref 262), some (.int a5), some (.int v711), some (.int v715), u8, none]) (st' := [.ref 247]) (pc' := 1505) hk (.aload_n 2) 1 rfl rfl rfl rfl ?_
  refine ev_cv 183 0 [.int (fM_thrown M714)] 1508 hk rfl rfl rfl rfl lk_model rfl rfl rfl (rM_thrown rfl) rfl rfl rfl rfl ?_
  refine ev_ls (L' := [some (.retAddr 0), some (.ref 0), some (.ref 247), some (.ref 261), some (.ref 262), some (.int a5), some (.int v711), some (.int v715), u8, none]) (st' := [.int v711, .int (fM_thrown M714)]) (pc' := 1510) hk (.iload 6) 2 rfl rfl rfl rfl ?_
  refine ev_d2 1515 1513 hk rfl rfl rfl rfl (px_ceq hx (fun hc hx => ?_) (fun hc hx => ?_))
  · refine ev_ls (L' := [some (.retAddr 0), some (.ref 0), some (.ref 247), some (.ref 261), some (.ref 262), some (.int a5), some (.int v711), some (.int v715), u8, none]) (st' := [.int v711]) (pc' := 1517) hk (.iload 6) 2 rfl rfl rfl rfl ?_
    refine ev_d1 1532 1520 hk rfl rfl rfl rfl (px_cne hx (fun hc hx => ?_) (fun hc hx => ?_))
    · refine ev_jp (pc' := 3189) (st' := []) hk (.goto 1657) 3 rfl rfl rfl rfl rfl ?_
      refine ev_ls (L' := [some (.retAddr 0), some (.ref 0), some (.ref 247), some (.ref 261), some (.ref 262), some (.int (a5 + 6)), some (.int v711), some (.int v715), u8, none]) (st' := []) (pc' := 3192) hk (.iinc 5 6) 3 rfl rfl rfl rfl ?_
      refine ev_jp (pc' := 28) (st' := []) hk (.goto (-3164)) 3 rfl rfl rfl rfl rfl ?_
      cases hx
      exact hM (some (.int v711)) (some (.int v715)) rfl u8
    · refine ev_ls (L' := [some (.retAddr 0), some (.ref 0), some (.ref 247), some (.ref 261), some (.ref 262), some (.int a5), some (.int v711), some (.int v715), u8, none]) (st' := [.ref 261]) (pc' := 1521) hk (.aload_n 3) 1 rfl rfl rfl rfl ?_
      refine ev_op (st' := [.int 0, .ref 261]) (pc' := 1522) hk (.iconst 0) 1 rfl rfl rfl ?_
      refine ev_lal (v := (ou709 0)) rfl 1523 hk rfl lk_ou rfl ?_
      refine ev_ls (L' := [some (.retAddr 0), some (.ref 0), some (.ref 247), some (.ref 261), some (.ref 262), some (.int a5), some (.int v711), some (.int v715), u8, none]) (st' := [.int v715, .long (ou709 0)]) (pc' := 1525) hk (.iload 7) 2 rfl rfl rfl rfl ?_
      refine ev_op (st' := [.long (Int32.toInt64 v715), .long (ou709 0)]) (pc' := 1526) hk (.i2l) 1 rfl rfl rfl ?_
      refine ev_op (st' := [.int (lg_cmp (ou709 0) (Int32.toInt64 v715))]) (pc' := 1527) hk (.lcmp) 1 rfl rfl rfl ?_
      refine ev_d1 1532 1530 hk rfl rfl rfl rfl (px_leq hx (fun hc hx => ?_) (fun hc hx => ?_))
      · refine ev_jp (pc' := 3189) (st' := []) hk (.goto 1657) 3 rfl rfl rfl rfl rfl ?_
        refine ev_ls (L' := [some (.retAddr 0), some (.ref 0), some (.ref 247), some (.ref 261), some (.ref 262), some (.int (a5 + 6)), some (.int v711), some (.int v715), u8, none]) (st' := []) (pc' := 3192) hk (.iinc 5 6) 3 rfl rfl rfl rfl ?_
        refine ev_jp (pc' := 28) (st' := []) hk (.goto (-3164)) 3 rfl rfl rfl rfl rfl ?_
        cases hx
        exact hM (some (.int v711)) (some (.int v715)) rfl u8
      · refine ev_op (st' := [.int 0]) (pc' := 1531) hk (.iconst 0) 1 rfl rfl rfl ?_
        cases hx
        obtain rfl := hM
        exact ev_retZ false rfl hk rfl rfl
  · refine ev_op (st' := [.int 0]) (pc' := 1514) hk (.iconst 0) 1 rfl rfl rfl ?_
    cases hx
    obtain rfl := hM
    exact ev_retZ false rfl hk rfl rfl
set_option maxRecDepth 4000 in
theorem rw_law_j1535 {S : Nat} {xs : Nat → Int32} {I : zI} {C : zC} {Y : Nat → Int32} {Γ : Nat → zG} {D : zD} {O : Nat → Int32} {M : zM} {ou : Nat → Int64} {od : Nat → UInt64} {j : Nat} {a5 : Int32} {y : (Option Value ⊕ String) × px_H} {x : (zI × zC × (Nat → Int32) × (Nat → zG) × zD × (Nat → Int32) × zM × (Nat → Int64) × (Nat → UInt64) × Nat × Int32) ⊕ (Bool × zI × zC × (Nat → Int32) × (Nat → zG) × zD × (Nat → Int32) × zM × (Nat → Int64) × (Nat → UInt64) × Nat)}  (hx : fw_law_j1535 S xs I C Y Γ D O M ou od j a5 = some x) (hM : (Sum.elim (qw_law_28 S xs y) (fun X : Bool × zI × zC × (Nat → Int32) × (Nat → zG) × zD × (Nat → Int32) × zM × (Nat → Int64) × (Nat → UInt64) × Nat => y = (((.inl (some (.int (b2i X.1)))), (zH X.2.1 X.2.2.1 X.2.2.2.1 X.2.2.2.2.1 X.2.2.2.2.2.1 X.2.2.2.2.2.2.1 X.2.2.2.2.2.2.2.1 X.2.2.2.2.2.2.2.2.1 X.2.2.2.2.2.2.2.2.2.1 X.2.2.2.2.2.2.2.2.2.2)) : (Option Value ⊕ String) × px_H))) x) (u6 : Option Value) (u7 : Option Value) (hu7 : px_cz u7 = true) (u8 : Option Value) : Ev S xs 412 1535 [some (.retAddr 0), some (.ref 0), some (.ref 247), some (.ref 261), some (.ref 262), some (.int a5), u6, u7, u8, none] [] (zH I C Y Γ D O M ou od j) y := by
  have hk : pt_mt[412]? = some pt_r412 := rfl
  unfold fw_law_j1535 at hx
  refine ev_ls (L' := [some (.retAddr 0), some (.ref 0), some (.ref 247), some (.ref 261), some (.ref 262), some (.int a5), u6, u7, u8, none]) (st' := [.ref 0]) (pc' := 1536) hk (.aload_n 1) 1 rfl rfl rfl rfl ?_
  refine ev_ls (L' := [some (.retAddr 0), some (.ref 0), some (.ref 247), some (.ref 261), some (.ref 262), some (.int a5), u6, u7, u8, none]) (st' := [.retAddr 0, .ref 0]) (pc' := 1537) hk (.aload_n 0) 1 rfl rfl rfl rfl ?_
  refine ev_ls (L' := [some (.retAddr 0), some (.ref 0), some (.ref 247), some (.ref 261), some (.ref 262), some (.int a5), u6, u7, u8, none]) (st' := [.int a5, .retAddr 0, .ref 0]) (pc' := 1539) hk (.iload 5) 2 rfl rfl rfl rfl ?_
  refine ev_op (st' := [.int 1, .int a5, .retAddr 0, .ref 0]) (pc' := 1540) hk (.iconst 1) 1 rfl rfl rfl ?_
  refine ev_op (st' := [.int (a5 + 1), .retAddr 0, .ref 0]) (pc' := 1541) hk (.iadd) 1 rfl rfl rfl ?_
  obtain ⟨v717, hv717, hx⟩ := bnd_some hx
  refine ev_sal hv717 1542 hk rfl rfl ?_
  refine ev_ls (L' := [some (.retAddr 0), some (.ref 0), some (.ref 247), some (.ref 261), some (.ref 262), some (.int a5), u6, u7, u8, none]) (st' := [.ref 261, .int v717, .ref 0]) (pc' := 1543) hk (.aload_n 3) 1 rfl rfl rfl rfl ?_
  obtain ⟨v720, ou718, j719, hc721, hx⟩ := bnd3_some hx
  refine ev_cs 373 3 [.int v720] 1546 hk rfl rfl (by decide) rfl rfl rfl (rw_crossingsOf hc721) rfl rfl rfl rfl ?_
  refine ev_ls (L' := [some (.retAddr 0), some (.ref 0), some (.ref 247), some (.ref 261), some (.ref 262), some (.int a5), some (.int v720), u7, u8, none]) (st' := []) (pc' := 1548) hk (.istore 6) 2 rfl rfl rfl rfl ?_
  refine ev_ls (L' := [some (.retAddr 0), some (.ref 0), some (.ref 247), some (.ref 261), some (.ref 262), some (.int a5), some (.int v720), u7, u8, none]) (st' := [.ref 247]) (pc' := 1549) hk (.aload_n 2) 1 rfl rfl rfl rfl ?_
  refine ev_ls (L' := [some (.retAddr 0), some (.ref 0), some (.ref 247), some (.ref 261), some (.ref 262), some (.int a5), some (.int v720), u7, u8, none]) (st' := [.retAddr 0, .ref 247]) (pc' := 1550) hk (.aload_n 0) 1 rfl rfl rfl rfl ?_
  refine ev_ls (L' := [some (.retAddr 0), some (.ref 0), some (.ref 247), some (.ref 261), some (.ref 262), some (.int a5), some (.int v720), u7, u8, none]) (st' := [.int a5, .retAddr 0, .ref 247]) (pc' := 1552) hk (.iload 5) 2 rfl rfl rfl rfl ?_
  refine ev_op (st' := [.int 1, .int a5, .retAddr 0, .ref 247]) (pc' := 1553) hk (.iconst 1) 1 rfl rfl rfl ?_
  refine ev_op (st' := [.int (a5 + 1), .retAddr 0, .ref 247]) (pc' := 1554) hk (.iadd) 1 rfl rfl rfl ?_
  obtain ⟨v722, hv722, hx⟩ := bnd_some hx
  refine ev_sal hv722 1555 hk rfl rfl ?_
  obtain ⟨v724, M723, hc725, hx⟩ := bnd2_some hx
  refine ev_cv 41 1 [.int v724] 1558 hk rfl rfl rfl rfl lk_model rfl rfl rfl (rM_crossingsOf hc725) rfl rfl rfl rfl ?_
  refine ev_ls (L' := [some (.retAddr 0), some (.ref 0), some (.ref 247), some (.ref 261), some (.ref 262), some (.int a5), some (.int v720), some (.int v724), u8, none]) (st' := []) (pc' := 1560) hk (.istore 7) 2 rfl rfl rfl rfl ?_
  refine ev_ls (L' := [some (.retAddr 0), some (.ref 0), some (.ref 247), some (.ref 261), some (.ref 262), some (.int a5), some (.int v720), some (.int v724), u8, none]) (st' := [.ref 247]) (pc' := 1561) hk (.aload_n 2) 1 rfl rfl rfl rfl ?_
  refine ev_cv 183 0 [.int (fM_thrown M723)] 1564 hk rfl rfl rfl rfl lk_model rfl rfl rfl (rM_thrown rfl) rfl rfl rfl rfl ?_
  refine ev_ls (L' := [some (.retAddr 0), some (.ref 0), some (.ref 247), some (.ref 261), some (.ref 262), some (.int a5), some (.int v720), some (.int v724), u8, none]) (st' := [.int v720, .int (fM_thrown M723)]) (pc' := 1566) hk (.iload 6) 2 rfl rfl rfl rfl ?_
  refine ev_d2 1571 1569 hk rfl rfl rfl rfl (px_ceq hx (fun hc hx => ?_) (fun hc hx => ?_))
  · refine ev_ls (L' := [some (.retAddr 0), some (.ref 0), some (.ref 247), some (.ref 261), some (.ref 262), some (.int a5), some (.int v720), some (.int v724), u8, none]) (st' := [.int v720]) (pc' := 1573) hk (.iload 6) 2 rfl rfl rfl rfl ?_
    refine ev_d1 1588 1576 hk rfl rfl rfl rfl (px_cne hx (fun hc hx => ?_) (fun hc hx => ?_))
    · refine ev_jp (pc' := 3189) (st' := []) hk (.goto 1601) 3 rfl rfl rfl rfl rfl ?_
      refine ev_ls (L' := [some (.retAddr 0), some (.ref 0), some (.ref 247), some (.ref 261), some (.ref 262), some (.int (a5 + 6)), some (.int v720), some (.int v724), u8, none]) (st' := []) (pc' := 3192) hk (.iinc 5 6) 3 rfl rfl rfl rfl ?_
      refine ev_jp (pc' := 28) (st' := []) hk (.goto (-3164)) 3 rfl rfl rfl rfl rfl ?_
      cases hx
      exact hM (some (.int v720)) (some (.int v724)) rfl u8
    · refine ev_ls (L' := [some (.retAddr 0), some (.ref 0), some (.ref 247), some (.ref 261), some (.ref 262), some (.int a5), some (.int v720), some (.int v724), u8, none]) (st' := [.ref 261]) (pc' := 1577) hk (.aload_n 3) 1 rfl rfl rfl rfl ?_
      refine ev_op (st' := [.int 0, .ref 261]) (pc' := 1578) hk (.iconst 0) 1 rfl rfl rfl ?_
      refine ev_lal (v := (ou718 0)) rfl 1579 hk rfl lk_ou rfl ?_
      refine ev_ls (L' := [some (.retAddr 0), some (.ref 0), some (.ref 247), some (.ref 261), some (.ref 262), some (.int a5), some (.int v720), some (.int v724), u8, none]) (st' := [.int v724, .long (ou718 0)]) (pc' := 1581) hk (.iload 7) 2 rfl rfl rfl rfl ?_
      refine ev_op (st' := [.long (Int32.toInt64 v724), .long (ou718 0)]) (pc' := 1582) hk (.i2l) 1 rfl rfl rfl ?_
      refine ev_op (st' := [.int (lg_cmp (ou718 0) (Int32.toInt64 v724))]) (pc' := 1583) hk (.lcmp) 1 rfl rfl rfl ?_
      refine ev_d1 1588 1586 hk rfl rfl rfl rfl (px_leq hx (fun hc hx => ?_) (fun hc hx => ?_))
      · refine ev_jp (pc' := 3189) (st' := []) hk (.goto 1601) 3 rfl rfl rfl rfl rfl ?_
        refine ev_ls (L' := [some (.retAddr 0), some (.ref 0), some (.ref 247), some (.ref 261), some (.ref 262), some (.int (a5 + 6)), some (.int v720), some (.int v724), u8, none]) (st' := []) (pc' := 3192) hk (.iinc 5 6) 3 rfl rfl rfl rfl ?_
        refine ev_jp (pc' := 28) (st' := []) hk (.goto (-3164)) 3 rfl rfl rfl rfl rfl ?_
        cases hx
        exact hM (some (.int v720)) (some (.int v724)) rfl u8
      · refine ev_op (st' := [.int 0]) (pc' := 1587) hk (.iconst 0) 1 rfl rfl rfl ?_
        cases hx
        obtain rfl := hM
        exact ev_retZ false rfl hk rfl rfl
  · refine ev_op (st' := [.int 0]) (pc' := 1570) hk (.iconst 0) 1 rfl rfl rfl ?_
    cases hx
    obtain rfl := hM
    exact ev_retZ false rfl hk rfl rfl
set_option maxRecDepth 4000 in
theorem rw_law_j1591 {S : Nat} {xs : Nat → Int32} {I : zI} {C : zC} {Y : Nat → Int32} {Γ : Nat → zG} {D : zD} {O : Nat → Int32} {M : zM} {ou : Nat → Int64} {od : Nat → UInt64} {j : Nat} {a5 : Int32} {y : (Option Value ⊕ String) × px_H} {x : (zI × zC × (Nat → Int32) × (Nat → zG) × zD × (Nat → Int32) × zM × (Nat → Int64) × (Nat → UInt64) × Nat × Int32) ⊕ (Bool × zI × zC × (Nat → Int32) × (Nat → zG) × zD × (Nat → Int32) × zM × (Nat → Int64) × (Nat → UInt64) × Nat)}  (hx : fw_law_j1591 S xs I C Y Γ D O M ou od j a5 = some x) (hM : (Sum.elim (qw_law_28 S xs y) (fun X : Bool × zI × zC × (Nat → Int32) × (Nat → zG) × zD × (Nat → Int32) × zM × (Nat → Int64) × (Nat → UInt64) × Nat => y = (((.inl (some (.int (b2i X.1)))), (zH X.2.1 X.2.2.1 X.2.2.2.1 X.2.2.2.2.1 X.2.2.2.2.2.1 X.2.2.2.2.2.2.1 X.2.2.2.2.2.2.2.1 X.2.2.2.2.2.2.2.2.1 X.2.2.2.2.2.2.2.2.2.1 X.2.2.2.2.2.2.2.2.2.2)) : (Option Value ⊕ String) × px_H))) x) (u6 : Option Value) (u7 : Option Value) (hu7 : px_cz u7 = true) (u8 : Option Value) : Ev S xs 412 1591 [some (.retAddr 0), some (.ref 0), some (.ref 247), some (.ref 261), some (.ref 262), some (.int a5), u6, u7, u8, none] [] (zH I C Y Γ D O M ou od j) y := by
  have hk : pt_mt[412]? = some pt_r412 := rfl
  unfold fw_law_j1591 at hx
  refine ev_ls (L' := [some (.retAddr 0), some (.ref 0), some (.ref 247), some (.ref 261), some (.ref 262), some (.int a5), u6, u7, u8, none]) (st' := [.ref 0]) (pc' := 1592) hk (.aload_n 1) 1 rfl rfl rfl rfl ?_
  obtain ⟨v726, hc727, hx⟩ := bnd_some hx
  refine ev_cv 345 0 [.int v726] 1595 hk rfl rfl rfl rfl lk_dh rfl rfl rfl (rX_nextMidnight hc727) rfl rfl rfl rfl ?_
  refine ev_ls (L' := [some (.retAddr 0), some (.ref 0), some (.ref 247), some (.ref 261), some (.ref 262), some (.int a5), u6, u7, u8, none]) (st' := [.ref 247, .int v726]) (pc' := 1596) hk (.aload_n 2) 1 rfl rfl rfl rfl ?_
  obtain ⟨v729, M728, hc730, hx⟩ := bnd2_some hx
  refine ev_cv 143 0 [.int v729, .int v726] 1599 hk rfl rfl rfl rfl lk_model rfl rfl rfl (rM_nextMidnight hc730) rfl rfl rfl rfl ?_
  refine ev_d2 3189 1602 hk rfl rfl rfl rfl (px_ceq hx (fun hc hx => ?_) (fun hc hx => ?_))
  · refine ev_ls (L' := [some (.retAddr 0), some (.ref 0), some (.ref 247), some (.ref 261), some (.ref 262), some (.int (a5 + 6)), u6, u7, u8, none]) (st' := []) (pc' := 3192) hk (.iinc 5 6) 3 rfl rfl rfl rfl ?_
    refine ev_jp (pc' := 28) (st' := []) hk (.goto (-3164)) 3 rfl rfl rfl rfl rfl ?_
    cases hx
    exact hM u6 u7 hu7 u8
  · refine ev_op (st' := [.int 0]) (pc' := 1603) hk (.iconst 0) 1 rfl rfl rfl ?_
    cases hx
    obtain rfl := hM
    exact ev_retZ false rfl hk rfl rfl
set_option maxRecDepth 4000 in
theorem rw_law_j1604 {S : Nat} {xs : Nat → Int32} {I : zI} {C : zC} {Y : Nat → Int32} {Γ : Nat → zG} {D : zD} {O : Nat → Int32} {M : zM} {ou : Nat → Int64} {od : Nat → UInt64} {j : Nat} {a5 : Int32} {y : (Option Value ⊕ String) × px_H} {x : (zI × zC × (Nat → Int32) × (Nat → zG) × zD × (Nat → Int32) × zM × (Nat → Int64) × (Nat → UInt64) × Nat × Int32) ⊕ (Bool × zI × zC × (Nat → Int32) × (Nat → zG) × zD × (Nat → Int32) × zM × (Nat → Int64) × (Nat → UInt64) × Nat)}  (hx : fw_law_j1604 S xs I C Y Γ D O M ou od j a5 = some x) (hM : (Sum.elim (qw_law_28 S xs y) (fun X : Bool × zI × zC × (Nat → Int32) × (Nat → zG) × zD × (Nat → Int32) × zM × (Nat → Int64) × (Nat → UInt64) × Nat => y = (((.inl (some (.int (b2i X.1)))), (zH X.2.1 X.2.2.1 X.2.2.2.1 X.2.2.2.2.1 X.2.2.2.2.2.1 X.2.2.2.2.2.2.1 X.2.2.2.2.2.2.2.1 X.2.2.2.2.2.2.2.2.1 X.2.2.2.2.2.2.2.2.2.1 X.2.2.2.2.2.2.2.2.2.2)) : (Option Value ⊕ String) × px_H))) x) (u6 : Option Value) (u7 : Option Value) (hu7 : px_cz u7 = true) (u8 : Option Value) : Ev S xs 412 1604 [some (.retAddr 0), some (.ref 0), some (.ref 247), some (.ref 261), some (.ref 262), some (.int a5), u6, u7, u8, none] [] (zH I C Y Γ D O M ou od j) y := by
  have hk : pt_mt[412]? = some pt_r412 := rfl
  unfold fw_law_j1604 at hx
  refine ev_ls (L' := [some (.retAddr 0), some (.ref 0), some (.ref 247), some (.ref 261), some (.ref 262), some (.int a5), u6, u7, u8, none]) (st' := [.ref 0]) (pc' := 1605) hk (.aload_n 1) 1 rfl rfl rfl rfl ?_
  refine ev_cv 328 0 [.int (fX_labelCount Γ)] 1608 hk rfl rfl rfl rfl lk_dh rfl rfl rfl (rX_labelCount rfl) rfl rfl rfl rfl ?_
  refine ev_ls (L' := [some (.retAddr 0), some (.ref 0), some (.ref 247), some (.ref 261), some (.ref 262), some (.int a5), u6, u7, u8, none]) (st' := [.ref 247, .int (fX_labelCount Γ)]) (pc' := 1609) hk (.aload_n 2) 1 rfl rfl rfl rfl ?_
  obtain ⟨v732, M731, hc733, hx⟩ := bnd2_some hx
  refine ev_cv 108 0 [.int v732, .int (fX_labelCount Γ)] 1612 hk rfl rfl rfl rfl lk_model rfl rfl rfl (rM_labelCount hc733) rfl rfl rfl rfl ?_
  refine ev_d2 3189 1615 hk rfl rfl rfl rfl (px_ceq hx (fun hc hx => ?_) (fun hc hx => ?_))
  · refine ev_ls (L' := [some (.retAddr 0), some (.ref 0), some (.ref 247), some (.ref 261), some (.ref 262), some (.int (a5 + 6)), u6, u7, u8, none]) (st' := []) (pc' := 3192) hk (.iinc 5 6) 3 rfl rfl rfl rfl ?_
    refine ev_jp (pc' := 28) (st' := []) hk (.goto (-3164)) 3 rfl rfl rfl rfl rfl ?_
    cases hx
    exact hM u6 u7 hu7 u8
  · refine ev_op (st' := [.int 0]) (pc' := 1616) hk (.iconst 0) 1 rfl rfl rfl ?_
    cases hx
    obtain rfl := hM
    exact ev_retZ false rfl hk rfl rfl
set_option maxRecDepth 4000 in
theorem rw_law_j1617 {S : Nat} {xs : Nat → Int32} {I : zI} {C : zC} {Y : Nat → Int32} {Γ : Nat → zG} {D : zD} {O : Nat → Int32} {M : zM} {ou : Nat → Int64} {od : Nat → UInt64} {j : Nat} {a5 : Int32} {y : (Option Value ⊕ String) × px_H} {x : (zI × zC × (Nat → Int32) × (Nat → zG) × zD × (Nat → Int32) × zM × (Nat → Int64) × (Nat → UInt64) × Nat × Int32) ⊕ (Bool × zI × zC × (Nat → Int32) × (Nat → zG) × zD × (Nat → Int32) × zM × (Nat → Int64) × (Nat → UInt64) × Nat)}  (hx : fw_law_j1617 S xs I C Y Γ D O M ou od j a5 = some x) (hM : (Sum.elim (qw_law_28 S xs y) (fun X : Bool × zI × zC × (Nat → Int32) × (Nat → zG) × zD × (Nat → Int32) × zM × (Nat → Int64) × (Nat → UInt64) × Nat => y = (((.inl (some (.int (b2i X.1)))), (zH X.2.1 X.2.2.1 X.2.2.2.1 X.2.2.2.2.1 X.2.2.2.2.2.1 X.2.2.2.2.2.2.1 X.2.2.2.2.2.2.2.1 X.2.2.2.2.2.2.2.2.1 X.2.2.2.2.2.2.2.2.2.1 X.2.2.2.2.2.2.2.2.2.2)) : (Option Value ⊕ String) × px_H))) x) (u6 : Option Value) (u7 : Option Value) (hu7 : px_cz u7 = true) (u8 : Option Value) : Ev S xs 412 1617 [some (.retAddr 0), some (.ref 0), some (.ref 247), some (.ref 261), some (.ref 262), some (.int a5), u6, u7, u8, none] [] (zH I C Y Γ D O M ou od j) y := by
  have hk : pt_mt[412]? = some pt_r412 := rfl
  unfold fw_law_j1617 at hx
  refine ev_ls (L' := [some (.retAddr 0), some (.ref 0), some (.ref 247), some (.ref 261), some (.ref 262), some (.int a5), u6, u7, u8, none]) (st' := [.ref 0]) (pc' := 1618) hk (.aload_n 1) 1 rfl rfl rfl rfl ?_
  refine ev_ls (L' := [some (.retAddr 0), some (.ref 0), some (.ref 247), some (.ref 261), some (.ref 262), some (.int a5), u6, u7, u8, none]) (st' := [.retAddr 0, .ref 0]) (pc' := 1619) hk (.aload_n 0) 1 rfl rfl rfl rfl ?_
  refine ev_ls (L' := [some (.retAddr 0), some (.ref 0), some (.ref 247), some (.ref 261), some (.ref 262), some (.int a5), u6, u7, u8, none]) (st' := [.int a5, .retAddr 0, .ref 0]) (pc' := 1621) hk (.iload 5) 2 rfl rfl rfl rfl ?_
  refine ev_op (st' := [.int 1, .int a5, .retAddr 0, .ref 0]) (pc' := 1622) hk (.iconst 1) 1 rfl rfl rfl ?_
  refine ev_op (st' := [.int (a5 + 1), .retAddr 0, .ref 0]) (pc' := 1623) hk (.iadd) 1 rfl rfl rfl ?_
  obtain ⟨v734, hv734, hx⟩ := bnd_some hx
  refine ev_sal hv734 1624 hk rfl rfl ?_
  refine ev_ls (L' := [some (.retAddr 0), some (.ref 0), some (.ref 247), some (.ref 261), some (.ref 262), some (.int a5), u6, u7, u8, none]) (st' := [.ref 261, .int v734, .ref 0]) (pc' := 1625) hk (.aload_n 3) 1 rfl rfl rfl rfl ?_
  obtain ⟨v737, ou735, j736, hc738, hx⟩ := bnd3_some hx
  refine ev_cs 386 3 [.int v737] 1628 hk rfl rfl (by decide) rfl rfl rfl (rw_labelBand hc738) rfl rfl rfl rfl ?_
  refine ev_ls (L' := [some (.retAddr 0), some (.ref 0), some (.ref 247), some (.ref 261), some (.ref 262), some (.int a5), some (.int v737), u7, u8, none]) (st' := []) (pc' := 1630) hk (.istore 6) 2 rfl rfl rfl rfl ?_
  refine ev_ls (L' := [some (.retAddr 0), some (.ref 0), some (.ref 247), some (.ref 261), some (.ref 262), some (.int a5), some (.int v737), u7, u8, none]) (st' := [.ref 247]) (pc' := 1631) hk (.aload_n 2) 1 rfl rfl rfl rfl ?_
  refine ev_ls (L' := [some (.retAddr 0), some (.ref 0), some (.ref 247), some (.ref 261), some (.ref 262), some (.int a5), some (.int v737), u7, u8, none]) (st' := [.retAddr 0, .ref 247]) (pc' := 1632) hk (.aload_n 0) 1 rfl rfl rfl rfl ?_
  refine ev_ls (L' := [some (.retAddr 0), some (.ref 0), some (.ref 247), some (.ref 261), some (.ref 262), some (.int a5), some (.int v737), u7, u8, none]) (st' := [.int a5, .retAddr 0, .ref 247]) (pc' := 1634) hk (.iload 5) 2 rfl rfl rfl rfl ?_
  refine ev_op (st' := [.int 1, .int a5, .retAddr 0, .ref 247]) (pc' := 1635) hk (.iconst 1) 1 rfl rfl rfl ?_
  refine ev_op (st' := [.int (a5 + 1), .retAddr 0, .ref 247]) (pc' := 1636) hk (.iadd) 1 rfl rfl rfl ?_
  obtain ⟨v739, hv739, hx⟩ := bnd_some hx
  refine ev_sal hv739 1637 hk rfl rfl ?_
  obtain ⟨v741, M740, hc742, hx⟩ := bnd2_some hx
  refine ev_cv 107 1 [.int v741] 1640 hk rfl rfl rfl rfl lk_model rfl rfl rfl (rM_labelBand hc742) rfl rfl rfl rfl ?_
  refine ev_ls (L' := [some (.retAddr 0), some (.ref 0), some (.ref 247), some (.ref 261), some (.ref 262), some (.int a5), some (.int v737), some (.int v741), u8, none]) (st' := []) (pc' := 1642) hk (.istore 7) 2 rfl rfl rfl rfl ?_
  refine ev_ls (L' := [some (.retAddr 0), some (.ref 0), some (.ref 247), some (.ref 261), some (.ref 262), some (.int a5), some (.int v737), some (.int v741), u8, none]) (st' := [.ref 247]) (pc' := 1643) hk (.aload_n 2) 1 rfl rfl rfl rfl ?_
  refine ev_cv 183 0 [.int (fM_thrown M740)] 1646 hk rfl rfl rfl rfl lk_model rfl rfl rfl (rM_thrown rfl) rfl rfl rfl rfl ?_
  refine ev_ls (L' := [some (.retAddr 0), some (.ref 0), some (.ref 247), some (.ref 261), some (.ref 262), some (.int a5), some (.int v737), some (.int v741), u8, none]) (st' := [.int v737, .int (fM_thrown M740)]) (pc' := 1648) hk (.iload 6) 2 rfl rfl rfl rfl ?_
  refine ev_d2 1653 1651 hk rfl rfl rfl rfl (px_ceq hx (fun hc hx => ?_) (fun hc hx => ?_))
  · refine ev_ls (L' := [some (.retAddr 0), some (.ref 0), some (.ref 247), some (.ref 261), some (.ref 262), some (.int a5), some (.int v737), some (.int v741), u8, none]) (st' := [.int v737]) (pc' := 1655) hk (.iload 6) 2 rfl rfl rfl rfl ?_
    refine ev_d1 1670 1658 hk rfl rfl rfl rfl (px_cne hx (fun hc hx => ?_) (fun hc hx => ?_))
    · refine ev_jp (pc' := 3189) (st' := []) hk (.goto 1519) 3 rfl rfl rfl rfl rfl ?_
      refine ev_ls (L' := [some (.retAddr 0), some (.ref 0), some (.ref 247), some (.ref 261), some (.ref 262), some (.int (a5 + 6)), some (.int v737), some (.int v741), u8, none]) (st' := []) (pc' := 3192) hk (.iinc 5 6) 3 rfl rfl rfl rfl ?_
      refine ev_jp (pc' := 28) (st' := []) hk (.goto (-3164)) 3 rfl rfl rfl rfl rfl ?_
      cases hx
      exact hM (some (.int v737)) (some (.int v741)) rfl u8
    · refine ev_ls (L' := [some (.retAddr 0), some (.ref 0), some (.ref 247), some (.ref 261), some (.ref 262), some (.int a5), some (.int v737), some (.int v741), u8, none]) (st' := [.ref 261]) (pc' := 1659) hk (.aload_n 3) 1 rfl rfl rfl rfl ?_
      refine ev_op (st' := [.int 0, .ref 261]) (pc' := 1660) hk (.iconst 0) 1 rfl rfl rfl ?_
      refine ev_lal (v := (ou735 0)) rfl 1661 hk rfl lk_ou rfl ?_
      refine ev_ls (L' := [some (.retAddr 0), some (.ref 0), some (.ref 247), some (.ref 261), some (.ref 262), some (.int a5), some (.int v737), some (.int v741), u8, none]) (st' := [.int v741, .long (ou735 0)]) (pc' := 1663) hk (.iload 7) 2 rfl rfl rfl rfl ?_
      refine ev_op (st' := [.long (Int32.toInt64 v741), .long (ou735 0)]) (pc' := 1664) hk (.i2l) 1 rfl rfl rfl ?_
      refine ev_op (st' := [.int (lg_cmp (ou735 0) (Int32.toInt64 v741))]) (pc' := 1665) hk (.lcmp) 1 rfl rfl rfl ?_
      refine ev_d1 1670 1668 hk rfl rfl rfl rfl (px_leq hx (fun hc hx => ?_) (fun hc hx => ?_))
      · refine ev_jp (pc' := 3189) (st' := []) hk (.goto 1519) 3 rfl rfl rfl rfl rfl ?_
        refine ev_ls (L' := [some (.retAddr 0), some (.ref 0), some (.ref 247), some (.ref 261), some (.ref 262), some (.int (a5 + 6)), some (.int v737), some (.int v741), u8, none]) (st' := []) (pc' := 3192) hk (.iinc 5 6) 3 rfl rfl rfl rfl ?_
        refine ev_jp (pc' := 28) (st' := []) hk (.goto (-3164)) 3 rfl rfl rfl rfl rfl ?_
        cases hx
        exact hM (some (.int v737)) (some (.int v741)) rfl u8
      · refine ev_op (st' := [.int 0]) (pc' := 1669) hk (.iconst 0) 1 rfl rfl rfl ?_
        cases hx
        obtain rfl := hM
        exact ev_retZ false rfl hk rfl rfl
  · refine ev_op (st' := [.int 0]) (pc' := 1652) hk (.iconst 0) 1 rfl rfl rfl ?_
    cases hx
    obtain rfl := hM
    exact ev_retZ false rfl hk rfl rfl
set_option maxRecDepth 4000 in
theorem rw_law_j1673 {S : Nat} {xs : Nat → Int32} {I : zI} {C : zC} {Y : Nat → Int32} {Γ : Nat → zG} {D : zD} {O : Nat → Int32} {M : zM} {ou : Nat → Int64} {od : Nat → UInt64} {j : Nat} {a5 : Int32} {y : (Option Value ⊕ String) × px_H} {x : (zI × zC × (Nat → Int32) × (Nat → zG) × zD × (Nat → Int32) × zM × (Nat → Int64) × (Nat → UInt64) × Nat × Int32) ⊕ (Bool × zI × zC × (Nat → Int32) × (Nat → zG) × zD × (Nat → Int32) × zM × (Nat → Int64) × (Nat → UInt64) × Nat)}  (hx : fw_law_j1673 S xs I C Y Γ D O M ou od j a5 = some x) (hM : (Sum.elim (qw_law_28 S xs y) (fun X : Bool × zI × zC × (Nat → Int32) × (Nat → zG) × zD × (Nat → Int32) × zM × (Nat → Int64) × (Nat → UInt64) × Nat => y = (((.inl (some (.int (b2i X.1)))), (zH X.2.1 X.2.2.1 X.2.2.2.1 X.2.2.2.2.1 X.2.2.2.2.2.1 X.2.2.2.2.2.2.1 X.2.2.2.2.2.2.2.1 X.2.2.2.2.2.2.2.2.1 X.2.2.2.2.2.2.2.2.2.1 X.2.2.2.2.2.2.2.2.2.2)) : (Option Value ⊕ String) × px_H))) x) (u6 : Option Value) (u7 : Option Value) (hu7 : px_cz u7 = true) (u8 : Option Value) : Ev S xs 412 1673 [some (.retAddr 0), some (.ref 0), some (.ref 247), some (.ref 261), some (.ref 262), some (.int a5), u6, u7, u8, none] [] (zH I C Y Γ D O M ou od j) y := by
  have hk : pt_mt[412]? = some pt_r412 := rfl
  unfold fw_law_j1673 at hx
  refine ev_ls (L' := [some (.retAddr 0), some (.ref 0), some (.ref 247), some (.ref 261), some (.ref 262), some (.int a5), u6, u7, u8, none]) (st' := [.ref 0]) (pc' := 1674) hk (.aload_n 1) 1 rfl rfl rfl rfl ?_
  refine ev_ls (L' := [some (.retAddr 0), some (.ref 0), some (.ref 247), some (.ref 261), some (.ref 262), some (.int a5), u6, u7, u8, none]) (st' := [.retAddr 0, .ref 0]) (pc' := 1675) hk (.aload_n 0) 1 rfl rfl rfl rfl ?_
  refine ev_ls (L' := [some (.retAddr 0), some (.ref 0), some (.ref 247), some (.ref 261), some (.ref 262), some (.int a5), u6, u7, u8, none]) (st' := [.int a5, .retAddr 0, .ref 0]) (pc' := 1677) hk (.iload 5) 2 rfl rfl rfl rfl ?_
  refine ev_op (st' := [.int 1, .int a5, .retAddr 0, .ref 0]) (pc' := 1678) hk (.iconst 1) 1 rfl rfl rfl ?_
  refine ev_op (st' := [.int (a5 + 1), .retAddr 0, .ref 0]) (pc' := 1679) hk (.iadd) 1 rfl rfl rfl ?_
  obtain ⟨v743, hv743, hx⟩ := bnd_some hx
  refine ev_sal hv743 1680 hk rfl rfl ?_
  refine ev_ls (L' := [some (.retAddr 0), some (.ref 0), some (.ref 247), some (.ref 261), some (.ref 262), some (.int a5), u6, u7, u8, none]) (st' := [.ref 261, .int v743, .ref 0]) (pc' := 1681) hk (.aload_n 3) 1 rfl rfl rfl rfl ?_
  obtain ⟨v746, ou744, j745, hc747, hx⟩ := bnd3_some hx
  refine ev_cs 387 3 [.int v746] 1684 hk rfl rfl (by decide) rfl rfl rfl (rw_labelFirst hc747) rfl rfl rfl rfl ?_
  refine ev_ls (L' := [some (.retAddr 0), some (.ref 0), some (.ref 247), some (.ref 261), some (.ref 262), some (.int a5), some (.int v746), u7, u8, none]) (st' := []) (pc' := 1686) hk (.istore 6) 2 rfl rfl rfl rfl ?_
  refine ev_ls (L' := [some (.retAddr 0), some (.ref 0), some (.ref 247), some (.ref 261), some (.ref 262), some (.int a5), some (.int v746), u7, u8, none]) (st' := [.ref 247]) (pc' := 1687) hk (.aload_n 2) 1 rfl rfl rfl rfl ?_
  refine ev_ls (L' := [some (.retAddr 0), some (.ref 0), some (.ref 247), some (.ref 261), some (.ref 262), some (.int a5), some (.int v746), u7, u8, none]) (st' := [.retAddr 0, .ref 247]) (pc' := 1688) hk (.aload_n 0) 1 rfl rfl rfl rfl ?_
  refine ev_ls (L' := [some (.retAddr 0), some (.ref 0), some (.ref 247), some (.ref 261), some (.ref 262), some (.int a5), some (.int v746), u7, u8, none]) (st' := [.int a5, .retAddr 0, .ref 247]) (pc' := 1690) hk (.iload 5) 2 rfl rfl rfl rfl ?_
  refine ev_op (st' := [.int 1, .int a5, .retAddr 0, .ref 247]) (pc' := 1691) hk (.iconst 1) 1 rfl rfl rfl ?_
  refine ev_op (st' := [.int (a5 + 1), .retAddr 0, .ref 247]) (pc' := 1692) hk (.iadd) 1 rfl rfl rfl ?_
  obtain ⟨v748, hv748, hx⟩ := bnd_some hx
  refine ev_sal hv748 1693 hk rfl rfl ?_
  obtain ⟨v750, M749, hc751, hx⟩ := bnd2_some hx
  refine ev_cv 109 1 [.int v750] 1696 hk rfl rfl rfl rfl lk_model rfl rfl rfl (rM_labelFirst hc751) rfl rfl rfl rfl ?_
  refine ev_ls (L' := [some (.retAddr 0), some (.ref 0), some (.ref 247), some (.ref 261), some (.ref 262), some (.int a5), some (.int v746), some (.int v750), u8, none]) (st' := []) (pc' := 1698) hk (.istore 7) 2 rfl rfl rfl rfl ?_
  refine ev_ls (L' := [some (.retAddr 0), some (.ref 0), some (.ref 247), some (.ref 261), some (.ref 262), some (.int a5), some (.int v746), some (.int v750), u8, none]) (st' := [.ref 247]) (pc' := 1699) hk (.aload_n 2) 1 rfl rfl rfl rfl ?_
  refine ev_cv 183 0 [.int (fM_thrown M749)] 1702 hk rfl rfl rfl rfl lk_model rfl rfl rfl (rM_thrown rfl) rfl rfl rfl rfl ?_
  refine ev_ls (L' := [some (.retAddr 0), some (.ref 0), some (.ref 247), some (.ref 261), some (.ref 262), some (.int a5), some (.int v746), some (.int v750), u8, none]) (st' := [.int v746, .int (fM_thrown M749)]) (pc' := 1704) hk (.iload 6) 2 rfl rfl rfl rfl ?_
  refine ev_d2 1709 1707 hk rfl rfl rfl rfl (px_ceq hx (fun hc hx => ?_) (fun hc hx => ?_))
  · refine ev_ls (L' := [some (.retAddr 0), some (.ref 0), some (.ref 247), some (.ref 261), some (.ref 262), some (.int a5), some (.int v746), some (.int v750), u8, none]) (st' := [.int v746]) (pc' := 1711) hk (.iload 6) 2 rfl rfl rfl rfl ?_
    refine ev_d1 1726 1714 hk rfl rfl rfl rfl (px_cne hx (fun hc hx => ?_) (fun hc hx => ?_))
    · refine ev_jp (pc' := 3189) (st' := []) hk (.goto 1463) 3 rfl rfl rfl rfl rfl ?_
      refine ev_ls (L' := [some (.retAddr 0), some (.ref 0), some (.ref 247), some (.ref 261), some (.ref 262), some (.int (a5 + 6)), some (.int v746), some (.int v750), u8, none]) (st' := []) (pc' := 3192) hk (.iinc 5 6) 3 rfl rfl rfl rfl ?_
      refine ev_jp (pc' := 28) (st' := []) hk (.goto (-3164)) 3 rfl rfl rfl rfl rfl ?_
      cases hx
      exact hM (some (.int v746)) (some (.int v750)) rfl u8
    · refine ev_ls (L' := [some (.retAddr 0), some (.ref 0), some (.ref 247), some (.ref 261), some (.ref 262), some (.int a5), some (.int v746), some (.int v750), u8, none]) (st' := [.ref 261]) (pc' := 1715) hk (.aload_n 3) 1 rfl rfl rfl rfl ?_
      refine ev_op (st' := [.int 0, .ref 261]) (pc' := 1716) hk (.iconst 0) 1 rfl rfl rfl ?_
      refine ev_lal (v := (ou744 0)) rfl 1717 hk rfl lk_ou rfl ?_
      refine ev_ls (L' := [some (.retAddr 0), some (.ref 0), some (.ref 247), some (.ref 261), some (.ref 262), some (.int a5), some (.int v746), some (.int v750), u8, none]) (st' := [.int v750, .long (ou744 0)]) (pc' := 1719) hk (.iload 7) 2 rfl rfl rfl rfl ?_
      refine ev_op (st' := [.long (Int32.toInt64 v750), .long (ou744 0)]) (pc' := 1720) hk (.i2l) 1 rfl rfl rfl ?_
      refine ev_op (st' := [.int (lg_cmp (ou744 0) (Int32.toInt64 v750))]) (pc' := 1721) hk (.lcmp) 1 rfl rfl rfl ?_
      refine ev_d1 1726 1724 hk rfl rfl rfl rfl (px_leq hx (fun hc hx => ?_) (fun hc hx => ?_))
      · refine ev_jp (pc' := 3189) (st' := []) hk (.goto 1463) 3 rfl rfl rfl rfl rfl ?_
        refine ev_ls (L' := [some (.retAddr 0), some (.ref 0), some (.ref 247), some (.ref 261), some (.ref 262), some (.int (a5 + 6)), some (.int v746), some (.int v750), u8, none]) (st' := []) (pc' := 3192) hk (.iinc 5 6) 3 rfl rfl rfl rfl ?_
        refine ev_jp (pc' := 28) (st' := []) hk (.goto (-3164)) 3 rfl rfl rfl rfl rfl ?_
        cases hx
        exact hM (some (.int v746)) (some (.int v750)) rfl u8
      · refine ev_op (st' := [.int 0]) (pc' := 1725) hk (.iconst 0) 1 rfl rfl rfl ?_
        cases hx
        obtain rfl := hM
        exact ev_retZ false rfl hk rfl rfl
  · refine ev_op (st' := [.int 0]) (pc' := 1708) hk (.iconst 0) 1 rfl rfl rfl ?_
    cases hx
    obtain rfl := hM
    exact ev_retZ false rfl hk rfl rfl
set_option maxRecDepth 4000 in
theorem rw_law_j1729 {S : Nat} {xs : Nat → Int32} {I : zI} {C : zC} {Y : Nat → Int32} {Γ : Nat → zG} {D : zD} {O : Nat → Int32} {M : zM} {ou : Nat → Int64} {od : Nat → UInt64} {j : Nat} {a5 : Int32} {y : (Option Value ⊕ String) × px_H} {x : (zI × zC × (Nat → Int32) × (Nat → zG) × zD × (Nat → Int32) × zM × (Nat → Int64) × (Nat → UInt64) × Nat × Int32) ⊕ (Bool × zI × zC × (Nat → Int32) × (Nat → zG) × zD × (Nat → Int32) × zM × (Nat → Int64) × (Nat → UInt64) × Nat)}  (hx : fw_law_j1729 S xs I C Y Γ D O M ou od j a5 = some x) (hM : (Sum.elim (qw_law_28 S xs y) (fun X : Bool × zI × zC × (Nat → Int32) × (Nat → zG) × zD × (Nat → Int32) × zM × (Nat → Int64) × (Nat → UInt64) × Nat => y = (((.inl (some (.int (b2i X.1)))), (zH X.2.1 X.2.2.1 X.2.2.2.1 X.2.2.2.2.1 X.2.2.2.2.2.1 X.2.2.2.2.2.2.1 X.2.2.2.2.2.2.2.1 X.2.2.2.2.2.2.2.2.1 X.2.2.2.2.2.2.2.2.2.1 X.2.2.2.2.2.2.2.2.2.2)) : (Option Value ⊕ String) × px_H))) x) (u6 : Option Value) (u7 : Option Value) (hu7 : px_cz u7 = true) (u8 : Option Value) : Ev S xs 412 1729 [some (.retAddr 0), some (.ref 0), some (.ref 247), some (.ref 261), some (.ref 262), some (.int a5), u6, u7, u8, none] [] (zH I C Y Γ D O M ou od j) y := by
  have hk : pt_mt[412]? = some pt_r412 := rfl
  unfold fw_law_j1729 at hx
  refine ev_ls (L' := [some (.retAddr 0), some (.ref 0), some (.ref 247), some (.ref 261), some (.ref 262), some (.int a5), u6, u7, u8, none]) (st' := [.ref 0]) (pc' := 1730) hk (.aload_n 1) 1 rfl rfl rfl rfl ?_
  refine ev_ls (L' := [some (.retAddr 0), some (.ref 0), some (.ref 247), some (.ref 261), some (.ref 262), some (.int a5), u6, u7, u8, none]) (st' := [.retAddr 0, .ref 0]) (pc' := 1731) hk (.aload_n 0) 1 rfl rfl rfl rfl ?_
  refine ev_ls (L' := [some (.retAddr 0), some (.ref 0), some (.ref 247), some (.ref 261), some (.ref 262), some (.int a5), u6, u7, u8, none]) (st' := [.int a5, .retAddr 0, .ref 0]) (pc' := 1733) hk (.iload 5) 2 rfl rfl rfl rfl ?_
  refine ev_op (st' := [.int 1, .int a5, .retAddr 0, .ref 0]) (pc' := 1734) hk (.iconst 1) 1 rfl rfl rfl ?_
  refine ev_op (st' := [.int (a5 + 1), .retAddr 0, .ref 0]) (pc' := 1735) hk (.iadd) 1 rfl rfl rfl ?_
  obtain ⟨v752, hv752, hx⟩ := bnd_some hx
  refine ev_sal hv752 1736 hk rfl rfl ?_
  refine ev_ls (L' := [some (.retAddr 0), some (.ref 0), some (.ref 247), some (.ref 261), some (.ref 262), some (.int a5), u6, u7, u8, none]) (st' := [.ref 261, .int v752, .ref 0]) (pc' := 1737) hk (.aload_n 3) 1 rfl rfl rfl rfl ?_
  obtain ⟨v755, ou753, j754, hc756, hx⟩ := bnd3_some hx
  refine ev_cs 388 3 [.int v755] 1740 hk rfl rfl (by decide) rfl rfl rfl (rw_labelLast hc756) rfl rfl rfl rfl ?_
  refine ev_ls (L' := [some (.retAddr 0), some (.ref 0), some (.ref 247), some (.ref 261), some (.ref 262), some (.int a5), some (.int v755), u7, u8, none]) (st' := []) (pc' := 1742) hk (.istore 6) 2 rfl rfl rfl rfl ?_
  refine ev_ls (L' := [some (.retAddr 0), some (.ref 0), some (.ref 247), some (.ref 261), some (.ref 262), some (.int a5), some (.int v755), u7, u8, none]) (st' := [.ref 247]) (pc' := 1743) hk (.aload_n 2) 1 rfl rfl rfl rfl ?_
  refine ev_ls (L' := [some (.retAddr 0), some (.ref 0), some (.ref 247), some (.ref 261), some (.ref 262), some (.int a5), some (.int v755), u7, u8, none]) (st' := [.retAddr 0, .ref 247]) (pc' := 1744) hk (.aload_n 0) 1 rfl rfl rfl rfl ?_
  refine ev_ls (L' := [some (.retAddr 0), some (.ref 0), some (.ref 247), some (.ref 261), some (.ref 262), some (.int a5), some (.int v755), u7, u8, none]) (st' := [.int a5, .retAddr 0, .ref 247]) (pc' := 1746) hk (.iload 5) 2 rfl rfl rfl rfl ?_
  refine ev_op (st' := [.int 1, .int a5, .retAddr 0, .ref 247]) (pc' := 1747) hk (.iconst 1) 1 rfl rfl rfl ?_
  refine ev_op (st' := [.int (a5 + 1), .retAddr 0, .ref 247]) (pc' := 1748) hk (.iadd) 1 rfl rfl rfl ?_
  obtain ⟨v757, hv757, hx⟩ := bnd_some hx
  refine ev_sal hv757 1749 hk rfl rfl ?_
  obtain ⟨v759, M758, hc760, hx⟩ := bnd2_some hx
  refine ev_cv 110 1 [.int v759] 1752 hk rfl rfl rfl rfl lk_model rfl rfl rfl (rM_labelLast hc760) rfl rfl rfl rfl ?_
  refine ev_ls (L' := [some (.retAddr 0), some (.ref 0), some (.ref 247), some (.ref 261), some (.ref 262), some (.int a5), some (.int v755), some (.int v759), u8, none]) (st' := []) (pc' := 1754) hk (.istore 7) 2 rfl rfl rfl rfl ?_
  refine ev_ls (L' := [some (.retAddr 0), some (.ref 0), some (.ref 247), some (.ref 261), some (.ref 262), some (.int a5), some (.int v755), some (.int v759), u8, none]) (st' := [.ref 247]) (pc' := 1755) hk (.aload_n 2) 1 rfl rfl rfl rfl ?_
  refine ev_cv 183 0 [.int (fM_thrown M758)] 1758 hk rfl rfl rfl rfl lk_model rfl rfl rfl (rM_thrown rfl) rfl rfl rfl rfl ?_
  refine ev_ls (L' := [some (.retAddr 0), some (.ref 0), some (.ref 247), some (.ref 261), some (.ref 262), some (.int a5), some (.int v755), some (.int v759), u8, none]) (st' := [.int v755, .int (fM_thrown M758)]) (pc' := 1760) hk (.iload 6) 2 rfl rfl rfl rfl ?_
  refine ev_d2 1765 1763 hk rfl rfl rfl rfl (px_ceq hx (fun hc hx => ?_) (fun hc hx => ?_))
  · refine ev_ls (L' := [some (.retAddr 0), some (.ref 0), some (.ref 247), some (.ref 261), some (.ref 262), some (.int a5), some (.int v755), some (.int v759), u8, none]) (st' := [.int v755]) (pc' := 1767) hk (.iload 6) 2 rfl rfl rfl rfl ?_
    refine ev_d1 1782 1770 hk rfl rfl rfl rfl (px_cne hx (fun hc hx => ?_) (fun hc hx => ?_))
    · refine ev_jp (pc' := 3189) (st' := []) hk (.goto 1407) 3 rfl rfl rfl rfl rfl ?_
      refine ev_ls (L' := [some (.retAddr 0), some (.ref 0), some (.ref 247), some (.ref 261), some (.ref 262), some (.int (a5 + 6)), some (.int v755), some (.int v759), u8, none]) (st' := []) (pc' := 3192) hk (.iinc 5 6) 3 rfl rfl rfl rfl ?_
      refine ev_jp (pc' := 28) (st' := []) hk (.goto (-3164)) 3 rfl rfl rfl rfl rfl ?_
      cases hx
      exact hM (some (.int v755)) (some (.int v759)) rfl u8
    · refine ev_ls (L' := [some (.retAddr 0), some (.ref 0), some (.ref 247), some (.ref 261), some (.ref 262), some (.int a5), some (.int v755), some (.int v759), u8, none]) (st' := [.ref 261]) (pc' := 1771) hk (.aload_n 3) 1 rfl rfl rfl rfl ?_
      refine ev_op (st' := [.int 0, .ref 261]) (pc' := 1772) hk (.iconst 0) 1 rfl rfl rfl ?_
      refine ev_lal (v := (ou753 0)) rfl 1773 hk rfl lk_ou rfl ?_
      refine ev_ls (L' := [some (.retAddr 0), some (.ref 0), some (.ref 247), some (.ref 261), some (.ref 262), some (.int a5), some (.int v755), some (.int v759), u8, none]) (st' := [.int v759, .long (ou753 0)]) (pc' := 1775) hk (.iload 7) 2 rfl rfl rfl rfl ?_
      refine ev_op (st' := [.long (Int32.toInt64 v759), .long (ou753 0)]) (pc' := 1776) hk (.i2l) 1 rfl rfl rfl ?_
      refine ev_op (st' := [.int (lg_cmp (ou753 0) (Int32.toInt64 v759))]) (pc' := 1777) hk (.lcmp) 1 rfl rfl rfl ?_
      refine ev_d1 1782 1780 hk rfl rfl rfl rfl (px_leq hx (fun hc hx => ?_) (fun hc hx => ?_))
      · refine ev_jp (pc' := 3189) (st' := []) hk (.goto 1407) 3 rfl rfl rfl rfl rfl ?_
        refine ev_ls (L' := [some (.retAddr 0), some (.ref 0), some (.ref 247), some (.ref 261), some (.ref 262), some (.int (a5 + 6)), some (.int v755), some (.int v759), u8, none]) (st' := []) (pc' := 3192) hk (.iinc 5 6) 3 rfl rfl rfl rfl ?_
        refine ev_jp (pc' := 28) (st' := []) hk (.goto (-3164)) 3 rfl rfl rfl rfl rfl ?_
        cases hx
        exact hM (some (.int v755)) (some (.int v759)) rfl u8
      · refine ev_op (st' := [.int 0]) (pc' := 1781) hk (.iconst 0) 1 rfl rfl rfl ?_
        cases hx
        obtain rfl := hM
        exact ev_retZ false rfl hk rfl rfl
  · refine ev_op (st' := [.int 0]) (pc' := 1764) hk (.iconst 0) 1 rfl rfl rfl ?_
    cases hx
    obtain rfl := hM
    exact ev_retZ false rfl hk rfl rfl
set_option maxRecDepth 4000 in
theorem rw_law_j1839 {S : Nat} {xs : Nat → Int32} {I : zI} {C : zC} {Y : Nat → Int32} {Γ : Nat → zG} {D : zD} {O : Nat → Int32} {M : zM} {ou : Nat → Int64} {od : Nat → UInt64} {j : Nat} {a5 : Int32} {a0t : Int64} {a1t : Int64} {y : (Option Value ⊕ String) × px_H} {x : (zI × zC × (Nat → Int32) × (Nat → zG) × zD × (Nat → Int32) × zM × (Nat → Int64) × (Nat → UInt64) × Nat × Int32) ⊕ (Bool × zI × zC × (Nat → Int32) × (Nat → zG) × zD × (Nat → Int32) × zM × (Nat → Int64) × (Nat → UInt64) × Nat)}  (hx : fw_law_j1839 S xs I C Y Γ D O M ou od j a5 a0t a1t = some x) (hM : (Sum.elim (qw_law_28 S xs y) (fun X : Bool × zI × zC × (Nat → Int32) × (Nat → zG) × zD × (Nat → Int32) × zM × (Nat → Int64) × (Nat → UInt64) × Nat => y = (((.inl (some (.int (b2i X.1)))), (zH X.2.1 X.2.2.1 X.2.2.2.1 X.2.2.2.2.1 X.2.2.2.2.2.1 X.2.2.2.2.2.2.1 X.2.2.2.2.2.2.2.1 X.2.2.2.2.2.2.2.2.1 X.2.2.2.2.2.2.2.2.2.1 X.2.2.2.2.2.2.2.2.2.2)) : (Option Value ⊕ String) × px_H))) x) (u6 : Option Value) (hu6 : px_cz u6 = true) (u7 : Option Value) (hu7 : px_cz u7 = true) (u8 : Option Value) : Ev S xs 412 1839 [some (.retAddr 0), some (.ref 0), some (.ref 247), some (.ref 261), some (.ref 262), some (.int a5), u6, u7, u8, none] [.long a0t, .long a1t] (zH I C Y Γ D O M ou od j) y := by
  have hk : pt_mt[412]? = some pt_r412 := rfl
  unfold fw_law_j1839 at hx
  refine ev_op (st' := [.int (lg_cmp a1t a0t)]) (pc' := 1840) hk (.lcmp) 1 rfl rfl rfl ?_
  refine ev_d1 1845 1843 hk rfl rfl rfl rfl (px_leq hx (fun hc hx => ?_) (fun hc hx => ?_))
  · refine ev_jp (pc' := 3189) (st' := []) hk (.goto 1344) 3 rfl rfl rfl rfl rfl ?_
    refine ev_ls (L' := [some (.retAddr 0), some (.ref 0), some (.ref 247), some (.ref 261), some (.ref 262), some (.int (a5 + 6)), u6, u7, u8, none]) (st' := []) (pc' := 3192) hk (.iinc 5 6) 3 rfl rfl rfl rfl ?_
    refine ev_jp (pc' := 28) (st' := []) hk (.goto (-3164)) 3 rfl rfl rfl rfl rfl ?_
    cases hx
    exact hM u6 u7 hu7 u8
  · refine ev_op (st' := [.int 0]) (pc' := 1844) hk (.iconst 0) 1 rfl rfl rfl ?_
    cases hx
    obtain rfl := hM
    exact ev_retZ false rfl hk rfl rfl
set_option maxRecDepth 4000 in
theorem rw_law_j1785 {S : Nat} {xs : Nat → Int32} {I : zI} {C : zC} {Y : Nat → Int32} {Γ : Nat → zG} {D : zD} {O : Nat → Int32} {M : zM} {ou : Nat → Int64} {od : Nat → UInt64} {j : Nat} {a5 : Int32} {y : (Option Value ⊕ String) × px_H} {x : (zI × zC × (Nat → Int32) × (Nat → zG) × zD × (Nat → Int32) × zM × (Nat → Int64) × (Nat → UInt64) × Nat × Int32) ⊕ (Bool × zI × zC × (Nat → Int32) × (Nat → zG) × zD × (Nat → Int32) × zM × (Nat → Int64) × (Nat → UInt64) × Nat)}  (hx : fw_law_j1785 S xs I C Y Γ D O M ou od j a5 = some x) (hM : (Sum.elim (qw_law_28 S xs y) (fun X : Bool × zI × zC × (Nat → Int32) × (Nat → zG) × zD × (Nat → Int32) × zM × (Nat → Int64) × (Nat → UInt64) × Nat => y = (((.inl (some (.int (b2i X.1)))), (zH X.2.1 X.2.2.1 X.2.2.2.1 X.2.2.2.2.1 X.2.2.2.2.2.1 X.2.2.2.2.2.2.1 X.2.2.2.2.2.2.2.1 X.2.2.2.2.2.2.2.2.1 X.2.2.2.2.2.2.2.2.2.1 X.2.2.2.2.2.2.2.2.2.2)) : (Option Value ⊕ String) × px_H))) x) (u6 : Option Value) (u7 : Option Value) (hu7 : px_cz u7 = true) (u8 : Option Value) : Ev S xs 412 1785 [some (.retAddr 0), some (.ref 0), some (.ref 247), some (.ref 261), some (.ref 262), some (.int a5), u6, u7, u8, none] [] (zH I C Y Γ D O M ou od j) y := by
  have hk : pt_mt[412]? = some pt_r412 := rfl
  unfold fw_law_j1785 at hx
  refine ev_ls (L' := [some (.retAddr 0), some (.ref 0), some (.ref 247), some (.ref 261), some (.ref 262), some (.int a5), u6, u7, u8, none]) (st' := [.ref 0]) (pc' := 1786) hk (.aload_n 1) 1 rfl rfl rfl rfl ?_
  refine ev_ls (L' := [some (.retAddr 0), some (.ref 0), some (.ref 247), some (.ref 261), some (.ref 262), some (.int a5), u6, u7, u8, none]) (st' := [.retAddr 0, .ref 0]) (pc' := 1787) hk (.aload_n 0) 1 rfl rfl rfl rfl ?_
  refine ev_ls (L' := [some (.retAddr 0), some (.ref 0), some (.ref 247), some (.ref 261), some (.ref 262), some (.int a5), u6, u7, u8, none]) (st' := [.int a5, .retAddr 0, .ref 0]) (pc' := 1789) hk (.iload 5) 2 rfl rfl rfl rfl ?_
  refine ev_op (st' := [.int 1, .int a5, .retAddr 0, .ref 0]) (pc' := 1790) hk (.iconst 1) 1 rfl rfl rfl ?_
  refine ev_op (st' := [.int (a5 + 1), .retAddr 0, .ref 0]) (pc' := 1791) hk (.iadd) 1 rfl rfl rfl ?_
  obtain ⟨v761, hv761, hx⟩ := bnd_some hx
  refine ev_sal hv761 1792 hk rfl rfl ?_
  refine ev_ls (L' := [some (.retAddr 0), some (.ref 0), some (.ref 247), some (.ref 261), some (.ref 262), some (.int a5), u6, u7, u8, none]) (st' := [.ref 261, .int v761, .ref 0]) (pc' := 1793) hk (.aload_n 3) 1 rfl rfl rfl rfl ?_
  obtain ⟨v764, ou762, j763, hc765, hx⟩ := bnd3_some hx
  refine ev_cs 383 3 [.int v764] 1796 hk rfl rfl (by decide) rfl rfl rfl (rw_isLabelTorn hc765) rfl rfl rfl rfl ?_
  refine ev_ls (L' := [some (.retAddr 0), some (.ref 0), some (.ref 247), some (.ref 261), some (.ref 262), some (.int a5), some (.int v764), u7, u8, none]) (st' := []) (pc' := 1798) hk (.istore 6) 2 rfl rfl rfl rfl ?_
  refine ev_ls (L' := [some (.retAddr 0), some (.ref 0), some (.ref 247), some (.ref 261), some (.ref 262), some (.int a5), some (.int v764), u7, u8, none]) (st' := [.ref 247]) (pc' := 1799) hk (.aload_n 2) 1 rfl rfl rfl rfl ?_
  refine ev_ls (L' := [some (.retAddr 0), some (.ref 0), some (.ref 247), some (.ref 261), some (.ref 262), some (.int a5), some (.int v764), u7, u8, none]) (st' := [.retAddr 0, .ref 247]) (pc' := 1800) hk (.aload_n 0) 1 rfl rfl rfl rfl ?_
  refine ev_ls (L' := [some (.retAddr 0), some (.ref 0), some (.ref 247), some (.ref 261), some (.ref 262), some (.int a5), some (.int v764), u7, u8, none]) (st' := [.int a5, .retAddr 0, .ref 247]) (pc' := 1802) hk (.iload 5) 2 rfl rfl rfl rfl ?_
  refine ev_op (st' := [.int 1, .int a5, .retAddr 0, .ref 247]) (pc' := 1803) hk (.iconst 1) 1 rfl rfl rfl ?_
  refine ev_op (st' := [.int (a5 + 1), .retAddr 0, .ref 247]) (pc' := 1804) hk (.iadd) 1 rfl rfl rfl ?_
  obtain ⟨v766, hv766, hx⟩ := bnd_some hx
  refine ev_sal hv766 1805 hk rfl rfl ?_
  obtain ⟨v768, M767, hc769, hx⟩ := bnd2_some hx
  refine ev_cv 88 1 [.int (b2i v768)] 1808 hk rfl rfl rfl rfl lk_model rfl rfl rfl (rM_isLabelTorn hc769) rfl rfl rfl rfl ?_
  refine ev_ls (L' := [some (.retAddr 0), some (.ref 0), some (.ref 247), some (.ref 261), some (.ref 262), some (.int a5), some (.int v764), some (.int (b2i v768)), u8, none]) (st' := []) (pc' := 1810) hk (.istore 7) 2 rfl rfl rfl rfl ?_
  refine ev_ls (L' := [some (.retAddr 0), some (.ref 0), some (.ref 247), some (.ref 261), some (.ref 262), some (.int a5), some (.int v764), some (.int (b2i v768)), u8, none]) (st' := [.ref 247]) (pc' := 1811) hk (.aload_n 2) 1 rfl rfl rfl rfl ?_
  refine ev_cv 183 0 [.int (fM_thrown M767)] 1814 hk rfl rfl rfl rfl lk_model rfl rfl rfl (rM_thrown rfl) rfl rfl rfl rfl ?_
  refine ev_ls (L' := [some (.retAddr 0), some (.ref 0), some (.ref 247), some (.ref 261), some (.ref 262), some (.int a5), some (.int v764), some (.int (b2i v768)), u8, none]) (st' := [.int v764, .int (fM_thrown M767)]) (pc' := 1816) hk (.iload 6) 2 rfl rfl rfl rfl ?_
  refine ev_d2 1821 1819 hk rfl rfl rfl rfl (px_ceq hx (fun hc hx => ?_) (fun hc hx => ?_))
  · refine ev_ls (L' := [some (.retAddr 0), some (.ref 0), some (.ref 247), some (.ref 261), some (.ref 262), some (.int a5), some (.int v764), some (.int (b2i v768)), u8, none]) (st' := [.int v764]) (pc' := 1823) hk (.iload 6) 2 rfl rfl rfl rfl ?_
    refine ev_d1 1845 1826 hk rfl rfl rfl rfl (px_cne hx (fun hc hx => ?_) (fun hc hx => ?_))
    · refine ev_jp (pc' := 3189) (st' := []) hk (.goto 1344) 3 rfl rfl rfl rfl rfl ?_
      refine ev_ls (L' := [some (.retAddr 0), some (.ref 0), some (.ref 247), some (.ref 261), some (.ref 262), some (.int (a5 + 6)), some (.int v764), some (.int (b2i v768)), u8, none]) (st' := []) (pc' := 3192) hk (.iinc 5 6) 3 rfl rfl rfl rfl ?_
      refine ev_jp (pc' := 28) (st' := []) hk (.goto (-3164)) 3 rfl rfl rfl rfl rfl ?_
      cases hx
      exact hM (some (.int v764)) (some (.int (b2i v768))) rfl u8
    · refine ev_ls (L' := [some (.retAddr 0), some (.ref 0), some (.ref 247), some (.ref 261), some (.ref 262), some (.int a5), some (.int v764), some (.int (b2i v768)), u8, none]) (st' := [.ref 261]) (pc' := 1827) hk (.aload_n 3) 1 rfl rfl rfl rfl ?_
      refine ev_op (st' := [.int 0, .ref 261]) (pc' := 1828) hk (.iconst 0) 1 rfl rfl rfl ?_
      refine ev_lal (v := (ou762 0)) rfl 1829 hk rfl lk_ou rfl ?_
      refine ev_ls (L' := [some (.retAddr 0), some (.ref 0), some (.ref 247), some (.ref 261), some (.ref 262), some (.int a5), some (.int v764), some (.int (b2i v768)), u8, none]) (st' := [.int (b2i v768), .long (ou762 0)]) (pc' := 1831) hk (.iload 7) 2 rfl rfl rfl rfl ?_
      refine ev_d1 1838 1834 hk rfl rfl rfl rfl (px_beq hx (fun hc hx => ?_) (fun hc hx => ?_))
      · refine ev_op (st' := [.long 0, .long (ou762 0)]) (pc' := 1839) hk (.lconst 0) 1 rfl rfl rfl ?_
        exact rw_law_j1839 hx hM (some (.int v764)) rfl (some (.int (b2i v768))) rfl u8
      · refine ev_op (st' := [.long 1, .long (ou762 0)]) (pc' := 1835) hk (.lconst 1) 1 rfl rfl rfl ?_
        refine ev_jp (pc' := 1839) (st' := [.long 1, .long (ou762 0)]) hk (.goto 4) 3 rfl rfl rfl rfl rfl ?_
        exact rw_law_j1839 hx hM (some (.int v764)) rfl (some (.int (b2i v768))) rfl u8
  · refine ev_op (st' := [.int 0]) (pc' := 1820) hk (.iconst 0) 1 rfl rfl rfl ?_
    cases hx
    obtain rfl := hM
    exact ev_retZ false rfl hk rfl rfl
set_option maxRecDepth 4000 in
theorem rw_law_j1848 {S : Nat} {xs : Nat → Int32} {I : zI} {C : zC} {Y : Nat → Int32} {Γ : Nat → zG} {D : zD} {O : Nat → Int32} {M : zM} {ou : Nat → Int64} {od : Nat → UInt64} {j : Nat} {a5 : Int32} {y : (Option Value ⊕ String) × px_H} {x : (zI × zC × (Nat → Int32) × (Nat → zG) × zD × (Nat → Int32) × zM × (Nat → Int64) × (Nat → UInt64) × Nat × Int32) ⊕ (Bool × zI × zC × (Nat → Int32) × (Nat → zG) × zD × (Nat → Int32) × zM × (Nat → Int64) × (Nat → UInt64) × Nat)}  (hx : fw_law_j1848 S xs I C Y Γ D O M ou od j a5 = some x) (hM : (Sum.elim (qw_law_28 S xs y) (fun X : Bool × zI × zC × (Nat → Int32) × (Nat → zG) × zD × (Nat → Int32) × zM × (Nat → Int64) × (Nat → UInt64) × Nat => y = (((.inl (some (.int (b2i X.1)))), (zH X.2.1 X.2.2.1 X.2.2.2.1 X.2.2.2.2.1 X.2.2.2.2.2.1 X.2.2.2.2.2.2.1 X.2.2.2.2.2.2.2.1 X.2.2.2.2.2.2.2.2.1 X.2.2.2.2.2.2.2.2.2.1 X.2.2.2.2.2.2.2.2.2.2)) : (Option Value ⊕ String) × px_H))) x) (u6 : Option Value) (u7 : Option Value) (hu7 : px_cz u7 = true) (u8 : Option Value) : Ev S xs 412 1848 [some (.retAddr 0), some (.ref 0), some (.ref 247), some (.ref 261), some (.ref 262), some (.int a5), u6, u7, u8, none] [] (zH I C Y Γ D O M ou od j) y := by
  have hk : pt_mt[412]? = some pt_r412 := rfl
  unfold fw_law_j1848 at hx
  refine ev_ls (L' := [some (.retAddr 0), some (.ref 0), some (.ref 247), some (.ref 261), some (.ref 262), some (.int a5), u6, u7, u8, none]) (st' := [.ref 0]) (pc' := 1849) hk (.aload_n 1) 1 rfl rfl rfl rfl ?_
  refine ev_ls (L' := [some (.retAddr 0), some (.ref 0), some (.ref 247), some (.ref 261), some (.ref 262), some (.int a5), u6, u7, u8, none]) (st' := [.retAddr 0, .ref 0]) (pc' := 1850) hk (.aload_n 0) 1 rfl rfl rfl rfl ?_
  refine ev_ls (L' := [some (.retAddr 0), some (.ref 0), some (.ref 247), some (.ref 261), some (.ref 262), some (.int a5), u6, u7, u8, none]) (st' := [.int a5, .retAddr 0, .ref 0]) (pc' := 1852) hk (.iload 5) 2 rfl rfl rfl rfl ?_
  refine ev_op (st' := [.int 1, .int a5, .retAddr 0, .ref 0]) (pc' := 1853) hk (.iconst 1) 1 rfl rfl rfl ?_
  refine ev_op (st' := [.int (a5 + 1), .retAddr 0, .ref 0]) (pc' := 1854) hk (.iadd) 1 rfl rfl rfl ?_
  obtain ⟨v770, hv770, hx⟩ := bnd_some hx
  refine ev_sal hv770 1855 hk rfl rfl ?_
  refine ev_ls (L' := [some (.retAddr 0), some (.ref 0), some (.ref 247), some (.ref 261), some (.ref 262), some (.int a5), u6, u7, u8, none]) (st' := [.retAddr 0, .int v770, .ref 0]) (pc' := 1856) hk (.aload_n 0) 1 rfl rfl rfl rfl ?_
  refine ev_ls (L' := [some (.retAddr 0), some (.ref 0), some (.ref 247), some (.ref 261), some (.ref 262), some (.int a5), u6, u7, u8, none]) (st' := [.int a5, .retAddr 0, .int v770, .ref 0]) (pc' := 1858) hk (.iload 5) 2 rfl rfl rfl rfl ?_
  refine ev_op (st' := [.int 2, .int a5, .retAddr 0, .int v770, .ref 0]) (pc' := 1859) hk (.iconst 2) 1 rfl rfl rfl ?_
  refine ev_op (st' := [.int (a5 + 2), .retAddr 0, .int v770, .ref 0]) (pc' := 1860) hk (.iadd) 1 rfl rfl rfl ?_
  obtain ⟨v771, hv771, hx⟩ := bnd_some hx
  refine ev_sal hv771 1861 hk rfl rfl ?_
  refine ev_ls (L' := [some (.retAddr 0), some (.ref 0), some (.ref 247), some (.ref 261), some (.ref 262), some (.int a5), u6, u7, u8, none]) (st' := [.ref 261, .int v771, .int v770, .ref 0]) (pc' := 1862) hk (.aload_n 3) 1 rfl rfl rfl rfl ?_
  obtain ⟨v774, ou772, j773, hc775, hx⟩ := bnd3_some hx
  refine ev_cs 385 4 [.int v774] 1865 hk rfl rfl (by decide) rfl rfl rfl (rw_labelAt hc775) rfl rfl rfl rfl ?_
  refine ev_ls (L' := [some (.retAddr 0), some (.ref 0), some (.ref 247), some (.ref 261), some (.ref 262), some (.int a5), some (.int v774), u7, u8, none]) (st' := []) (pc' := 1867) hk (.istore 6) 2 rfl rfl rfl rfl ?_
  refine ev_ls (L' := [some (.retAddr 0), some (.ref 0), some (.ref 247), some (.ref 261), some (.ref 262), some (.int a5), some (.int v774), u7, u8, none]) (st' := [.ref 247]) (pc' := 1868) hk (.aload_n 2) 1 rfl rfl rfl rfl ?_
  refine ev_ls (L' := [some (.retAddr 0), some (.ref 0), some (.ref 247), some (.ref 261), some (.ref 262), some (.int a5), some (.int v774), u7, u8, none]) (st' := [.retAddr 0, .ref 247]) (pc' := 1869) hk (.aload_n 0) 1 rfl rfl rfl rfl ?_
  refine ev_ls (L' := [some (.retAddr 0), some (.ref 0), some (.ref 247), some (.ref 261), some (.ref 262), some (.int a5), some (.int v774), u7, u8, none]) (st' := [.int a5, .retAddr 0, .ref 247]) (pc' := 1871) hk (.iload 5) 2 rfl rfl rfl rfl ?_
  refine ev_op (st' := [.int 1, .int a5, .retAddr 0, .ref 247]) (pc' := 1872) hk (.iconst 1) 1 rfl rfl rfl ?_
  refine ev_op (st' := [.int (a5 + 1), .retAddr 0, .ref 247]) (pc' := 1873) hk (.iadd) 1 rfl rfl rfl ?_
  obtain ⟨v776, hv776, hx⟩ := bnd_some hx
  refine ev_sal hv776 1874 hk rfl rfl ?_
  refine ev_ls (L' := [some (.retAddr 0), some (.ref 0), some (.ref 247), some (.ref 261), some (.ref 262), some (.int a5), some (.int v774), u7, u8, none]) (st' := [.retAddr 0, .int v776, .ref 247]) (pc' := 1875) hk (.aload_n 0) 1 rfl rfl rfl rfl ?_
  refine ev_ls (L' := [some (.retAddr 0), some (.ref 0), some (.ref 247), some (.ref 261), some (.ref 262), some (.int a5), some (.int v774), u7, u8, none]) (st' := [.int a5, .retAddr 0, .int v776, .ref 247]) (pc' := 1877) hk (.iload 5) 2 rfl rfl rfl rfl ?_
  refine ev_op (st' := [.int 2, .int a5, .retAddr 0, .int v776, .ref 247]) (pc' := 1878) hk (.iconst 2) 1 rfl rfl rfl ?_
  refine ev_op (st' := [.int (a5 + 2), .retAddr 0, .int v776, .ref 247]) (pc' := 1879) hk (.iadd) 1 rfl rfl rfl ?_
  obtain ⟨v777, hv777, hx⟩ := bnd_some hx
  refine ev_sal hv777 1880 hk rfl rfl ?_
  obtain ⟨v779, M778, hc780, hx⟩ := bnd2_some hx
  refine ev_cv 106 2 [.int v779] 1883 hk rfl rfl rfl rfl lk_model rfl rfl rfl (rM_labelAt hc780) rfl rfl rfl rfl ?_
  refine ev_ls (L' := [some (.retAddr 0), some (.ref 0), some (.ref 247), some (.ref 261), some (.ref 262), some (.int a5), some (.int v774), some (.int v779), u8, none]) (st' := []) (pc' := 1885) hk (.istore 7) 2 rfl rfl rfl rfl ?_
  refine ev_ls (L' := [some (.retAddr 0), some (.ref 0), some (.ref 247), some (.ref 261), some (.ref 262), some (.int a5), some (.int v774), some (.int v779), u8, none]) (st' := [.ref 247]) (pc' := 1886) hk (.aload_n 2) 1 rfl rfl rfl rfl ?_
  refine ev_cv 183 0 [.int (fM_thrown M778)] 1889 hk rfl rfl rfl rfl lk_model rfl rfl rfl (rM_thrown rfl) rfl rfl rfl rfl ?_
  refine ev_ls (L' := [some (.retAddr 0), some (.ref 0), some (.ref 247), some (.ref 261), some (.ref 262), some (.int a5), some (.int v774), some (.int v779), u8, none]) (st' := [.int v774, .int (fM_thrown M778)]) (pc' := 1891) hk (.iload 6) 2 rfl rfl rfl rfl ?_
  refine ev_d2 1896 1894 hk rfl rfl rfl rfl (px_ceq hx (fun hc hx => ?_) (fun hc hx => ?_))
  · refine ev_ls (L' := [some (.retAddr 0), some (.ref 0), some (.ref 247), some (.ref 261), some (.ref 262), some (.int a5), some (.int v774), some (.int v779), u8, none]) (st' := [.int v774]) (pc' := 1898) hk (.iload 6) 2 rfl rfl rfl rfl ?_
    refine ev_d1 1913 1901 hk rfl rfl rfl rfl (px_cne hx (fun hc hx => ?_) (fun hc hx => ?_))
    · refine ev_jp (pc' := 3189) (st' := []) hk (.goto 1276) 3 rfl rfl rfl rfl rfl ?_
      refine ev_ls (L' := [some (.retAddr 0), some (.ref 0), some (.ref 247), some (.ref 261), some (.ref 262), some (.int (a5 + 6)), some (.int v774), some (.int v779), u8, none]) (st' := []) (pc' := 3192) hk (.iinc 5 6) 3 rfl rfl rfl rfl ?_
      refine ev_jp (pc' := 28) (st' := []) hk (.goto (-3164)) 3 rfl rfl rfl rfl rfl ?_
      cases hx
      exact hM (some (.int v774)) (some (.int v779)) rfl u8
    · refine ev_ls (L' := [some (.retAddr 0), some (.ref 0), some (.ref 247), some (.ref 261), some (.ref 262), some (.int a5), some (.int v774), some (.int v779), u8, none]) (st' := [.ref 261]) (pc' := 1902) hk (.aload_n 3) 1 rfl rfl rfl rfl ?_
      refine ev_op (st' := [.int 0, .ref 261]) (pc' := 1903) hk (.iconst 0) 1 rfl rfl rfl ?_
      refine ev_lal (v := (ou772 0)) rfl 1904 hk rfl lk_ou rfl ?_
      refine ev_ls (L' := [some (.retAddr 0), some (.ref 0), some (.ref 247), some (.ref 261), some (.ref 262), some (.int a5), some (.int v774), some (.int v779), u8, none]) (st' := [.int v779, .long (ou772 0)]) (pc' := 1906) hk (.iload 7) 2 rfl rfl rfl rfl ?_
      refine ev_op (st' := [.long (Int32.toInt64 v779), .long (ou772 0)]) (pc' := 1907) hk (.i2l) 1 rfl rfl rfl ?_
      refine ev_op (st' := [.int (lg_cmp (ou772 0) (Int32.toInt64 v779))]) (pc' := 1908) hk (.lcmp) 1 rfl rfl rfl ?_
      refine ev_d1 1913 1911 hk rfl rfl rfl rfl (px_leq hx (fun hc hx => ?_) (fun hc hx => ?_))
      · refine ev_jp (pc' := 3189) (st' := []) hk (.goto 1276) 3 rfl rfl rfl rfl rfl ?_
        refine ev_ls (L' := [some (.retAddr 0), some (.ref 0), some (.ref 247), some (.ref 261), some (.ref 262), some (.int (a5 + 6)), some (.int v774), some (.int v779), u8, none]) (st' := []) (pc' := 3192) hk (.iinc 5 6) 3 rfl rfl rfl rfl ?_
        refine ev_jp (pc' := 28) (st' := []) hk (.goto (-3164)) 3 rfl rfl rfl rfl rfl ?_
        cases hx
        exact hM (some (.int v774)) (some (.int v779)) rfl u8
      · refine ev_op (st' := [.int 0]) (pc' := 1912) hk (.iconst 0) 1 rfl rfl rfl ?_
        cases hx
        obtain rfl := hM
        exact ev_retZ false rfl hk rfl rfl
  · refine ev_op (st' := [.int 0]) (pc' := 1895) hk (.iconst 0) 1 rfl rfl rfl ?_
    cases hx
    obtain rfl := hM
    exact ev_retZ false rfl hk rfl rfl
set_option maxRecDepth 4000 in
theorem rw_law_j1916 {S : Nat} {xs : Nat → Int32} {I : zI} {C : zC} {Y : Nat → Int32} {Γ : Nat → zG} {D : zD} {O : Nat → Int32} {M : zM} {ou : Nat → Int64} {od : Nat → UInt64} {j : Nat} {a5 : Int32} {y : (Option Value ⊕ String) × px_H} {x : (zI × zC × (Nat → Int32) × (Nat → zG) × zD × (Nat → Int32) × zM × (Nat → Int64) × (Nat → UInt64) × Nat × Int32) ⊕ (Bool × zI × zC × (Nat → Int32) × (Nat → zG) × zD × (Nat → Int32) × zM × (Nat → Int64) × (Nat → UInt64) × Nat)}  (hx : fw_law_j1916 S xs I C Y Γ D O M ou od j a5 = some x) (hM : (Sum.elim (qw_law_28 S xs y) (fun X : Bool × zI × zC × (Nat → Int32) × (Nat → zG) × zD × (Nat → Int32) × zM × (Nat → Int64) × (Nat → UInt64) × Nat => y = (((.inl (some (.int (b2i X.1)))), (zH X.2.1 X.2.2.1 X.2.2.2.1 X.2.2.2.2.1 X.2.2.2.2.2.1 X.2.2.2.2.2.2.1 X.2.2.2.2.2.2.2.1 X.2.2.2.2.2.2.2.2.1 X.2.2.2.2.2.2.2.2.2.1 X.2.2.2.2.2.2.2.2.2.2)) : (Option Value ⊕ String) × px_H))) x) (u6 : Option Value) (u7 : Option Value) (hu7 : px_cz u7 = true) (u8 : Option Value) : Ev S xs 412 1916 [some (.retAddr 0), some (.ref 0), some (.ref 247), some (.ref 261), some (.ref 262), some (.int a5), u6, u7, u8, none] [] (zH I C Y Γ D O M ou od j) y := by
  have hk : pt_mt[412]? = some pt_r412 := rfl
  unfold fw_law_j1916 at hx
  refine ev_ls (L' := [some (.retAddr 0), some (.ref 0), some (.ref 247), some (.ref 261), some (.ref 262), some (.int a5), u6, u7, u8, none]) (st' := [.ref 0]) (pc' := 1917) hk (.aload_n 1) 1 rfl rfl rfl rfl ?_
  refine ev_ls (L' := [some (.retAddr 0), some (.ref 0), some (.ref 247), some (.ref 261), some (.ref 262), some (.int a5), u6, u7, u8, none]) (st' := [.retAddr 0, .ref 0]) (pc' := 1918) hk (.aload_n 0) 1 rfl rfl rfl rfl ?_
  refine ev_ls (L' := [some (.retAddr 0), some (.ref 0), some (.ref 247), some (.ref 261), some (.ref 262), some (.int a5), u6, u7, u8, none]) (st' := [.int a5, .retAddr 0, .ref 0]) (pc' := 1920) hk (.iload 5) 2 rfl rfl rfl rfl ?_
  refine ev_op (st' := [.int 1, .int a5, .retAddr 0, .ref 0]) (pc' := 1921) hk (.iconst 1) 1 rfl rfl rfl ?_
  refine ev_op (st' := [.int (a5 + 1), .retAddr 0, .ref 0]) (pc' := 1922) hk (.iadd) 1 rfl rfl rfl ?_
  obtain ⟨v781, hv781, hx⟩ := bnd_some hx
  refine ev_sal hv781 1923 hk rfl rfl ?_
  refine ev_ls (L' := [some (.retAddr 0), some (.ref 0), some (.ref 247), some (.ref 261), some (.ref 262), some (.int a5), u6, u7, u8, none]) (st' := [.retAddr 0, .int v781, .ref 0]) (pc' := 1924) hk (.aload_n 0) 1 rfl rfl rfl rfl ?_
  refine ev_ls (L' := [some (.retAddr 0), some (.ref 0), some (.ref 247), some (.ref 261), some (.ref 262), some (.int a5), u6, u7, u8, none]) (st' := [.int a5, .retAddr 0, .int v781, .ref 0]) (pc' := 1926) hk (.iload 5) 2 rfl rfl rfl rfl ?_
  refine ev_op (st' := [.int 2, .int a5, .retAddr 0, .int v781, .ref 0]) (pc' := 1927) hk (.iconst 2) 1 rfl rfl rfl ?_
  refine ev_op (st' := [.int (a5 + 2), .retAddr 0, .int v781, .ref 0]) (pc' := 1928) hk (.iadd) 1 rfl rfl rfl ?_
  obtain ⟨v782, hv782, hx⟩ := bnd_some hx
  refine ev_sal hv782 1929 hk rfl rfl ?_
  refine ev_ls (L' := [some (.retAddr 0), some (.ref 0), some (.ref 247), some (.ref 261), some (.ref 262), some (.int a5), u6, u7, u8, none]) (st' := [.ref 261, .int v782, .int v781, .ref 0]) (pc' := 1930) hk (.aload_n 3) 1 rfl rfl rfl rfl ?_
  obtain ⟨v785, ou783, j784, hc786, hx⟩ := bnd3_some hx
  refine ev_cs 380 4 [.int v785] 1933 hk rfl rfl (by decide) rfl rfl rfl (rw_hemObstacle hc786) rfl rfl rfl rfl ?_
  refine ev_ls (L' := [some (.retAddr 0), some (.ref 0), some (.ref 247), some (.ref 261), some (.ref 262), some (.int a5), some (.int v785), u7, u8, none]) (st' := []) (pc' := 1935) hk (.istore 6) 2 rfl rfl rfl rfl ?_
  refine ev_ls (L' := [some (.retAddr 0), some (.ref 0), some (.ref 247), some (.ref 261), some (.ref 262), some (.int a5), some (.int v785), u7, u8, none]) (st' := [.ref 247]) (pc' := 1936) hk (.aload_n 2) 1 rfl rfl rfl rfl ?_
  refine ev_ls (L' := [some (.retAddr 0), some (.ref 0), some (.ref 247), some (.ref 261), some (.ref 262), some (.int a5), some (.int v785), u7, u8, none]) (st' := [.retAddr 0, .ref 247]) (pc' := 1937) hk (.aload_n 0) 1 rfl rfl rfl rfl ?_
  refine ev_ls (L' := [some (.retAddr 0), some (.ref 0), some (.ref 247), some (.ref 261), some (.ref 262), some (.int a5), some (.int v785), u7, u8, none]) (st' := [.int a5, .retAddr 0, .ref 247]) (pc' := 1939) hk (.iload 5) 2 rfl rfl rfl rfl ?_
  refine ev_op (st' := [.int 1, .int a5, .retAddr 0, .ref 247]) (pc' := 1940) hk (.iconst 1) 1 rfl rfl rfl ?_
  refine ev_op (st' := [.int (a5 + 1), .retAddr 0, .ref 247]) (pc' := 1941) hk (.iadd) 1 rfl rfl rfl ?_
  obtain ⟨v787, hv787, hx⟩ := bnd_some hx
  refine ev_sal hv787 1942 hk rfl rfl ?_
  refine ev_ls (L' := [some (.retAddr 0), some (.ref 0), some (.ref 247), some (.ref 261), some (.ref 262), some (.int a5), some (.int v785), u7, u8, none]) (st' := [.retAddr 0, .int v787, .ref 247]) (pc' := 1943) hk (.aload_n 0) 1 rfl rfl rfl rfl ?_
  refine ev_ls (L' := [some (.retAddr 0), some (.ref 0), some (.ref 247), some (.ref 261), some (.ref 262), some (.int a5), some (.int v785), u7, u8, none]) (st' := [.int a5, .retAddr 0, .int v787, .ref 247]) (pc' := 1945) hk (.iload 5) 2 rfl rfl rfl rfl ?_
  refine ev_op (st' := [.int 2, .int a5, .retAddr 0, .int v787, .ref 247]) (pc' := 1946) hk (.iconst 2) 1 rfl rfl rfl ?_
  refine ev_op (st' := [.int (a5 + 2), .retAddr 0, .int v787, .ref 247]) (pc' := 1947) hk (.iadd) 1 rfl rfl rfl ?_
  obtain ⟨v788, hv788, hx⟩ := bnd_some hx
  refine ev_sal hv788 1948 hk rfl rfl ?_
  obtain ⟨v790, M789, hc791, hx⟩ := bnd2_some hx
  refine ev_cv 69 2 [.int v790] 1951 hk rfl rfl rfl rfl lk_model rfl rfl rfl (rM_hemObstacle hc791) rfl rfl rfl rfl ?_
  refine ev_ls (L' := [some (.retAddr 0), some (.ref 0), some (.ref 247), some (.ref 261), some (.ref 262), some (.int a5), some (.int v785), some (.int v790), u8, none]) (st' := []) (pc' := 1953) hk (.istore 7) 2 rfl rfl rfl rfl ?_
  refine ev_ls (L' := [some (.retAddr 0), some (.ref 0), some (.ref 247), some (.ref 261), some (.ref 262), some (.int a5), some (.int v785), some (.int v790), u8, none]) (st' := [.ref 247]) (pc' := 1954) hk (.aload_n 2) 1 rfl rfl rfl rfl ?_
  refine ev_cv 183 0 [.int (fM_thrown M789)] 1957 hk rfl rfl rfl rfl lk_model rfl rfl rfl (rM_thrown rfl) rfl rfl rfl rfl ?_
  refine ev_ls (L' := [some (.retAddr 0), some (.ref 0), some (.ref 247), some (.ref 261), some (.ref 262), some (.int a5), some (.int v785), some (.int v790), u8, none]) (st' := [.int v785, .int (fM_thrown M789)]) (pc' := 1959) hk (.iload 6) 2 rfl rfl rfl rfl ?_
  refine ev_d2 1964 1962 hk rfl rfl rfl rfl (px_ceq hx (fun hc hx => ?_) (fun hc hx => ?_))
  · refine ev_ls (L' := [some (.retAddr 0), some (.ref 0), some (.ref 247), some (.ref 261), some (.ref 262), some (.int a5), some (.int v785), some (.int v790), u8, none]) (st' := [.int v785]) (pc' := 1966) hk (.iload 6) 2 rfl rfl rfl rfl ?_
    refine ev_d1 1981 1969 hk rfl rfl rfl rfl (px_cne hx (fun hc hx => ?_) (fun hc hx => ?_))
    · refine ev_jp (pc' := 3189) (st' := []) hk (.goto 1208) 3 rfl rfl rfl rfl rfl ?_
      refine ev_ls (L' := [some (.retAddr 0), some (.ref 0), some (.ref 247), some (.ref 261), some (.ref 262), some (.int (a5 + 6)), some (.int v785), some (.int v790), u8, none]) (st' := []) (pc' := 3192) hk (.iinc 5 6) 3 rfl rfl rfl rfl ?_
      refine ev_jp (pc' := 28) (st' := []) hk (.goto (-3164)) 3 rfl rfl rfl rfl rfl ?_
      cases hx
      exact hM (some (.int v785)) (some (.int v790)) rfl u8
    · refine ev_ls (L' := [some (.retAddr 0), some (.ref 0), some (.ref 247), some (.ref 261), some (.ref 262), some (.int a5), some (.int v785), some (.int v790), u8, none]) (st' := [.ref 261]) (pc' := 1970) hk (.aload_n 3) 1 rfl rfl rfl rfl ?_
      refine ev_op (st' := [.int 0, .ref 261]) (pc' := 1971) hk (.iconst 0) 1 rfl rfl rfl ?_
      refine ev_lal (v := (ou783 0)) rfl 1972 hk rfl lk_ou rfl ?_
      refine ev_ls (L' := [some (.retAddr 0), some (.ref 0), some (.ref 247), some (.ref 261), some (.ref 262), some (.int a5), some (.int v785), some (.int v790), u8, none]) (st' := [.int v790, .long (ou783 0)]) (pc' := 1974) hk (.iload 7) 2 rfl rfl rfl rfl ?_
      refine ev_op (st' := [.long (Int32.toInt64 v790), .long (ou783 0)]) (pc' := 1975) hk (.i2l) 1 rfl rfl rfl ?_
      refine ev_op (st' := [.int (lg_cmp (ou783 0) (Int32.toInt64 v790))]) (pc' := 1976) hk (.lcmp) 1 rfl rfl rfl ?_
      refine ev_d1 1981 1979 hk rfl rfl rfl rfl (px_leq hx (fun hc hx => ?_) (fun hc hx => ?_))
      · refine ev_jp (pc' := 3189) (st' := []) hk (.goto 1208) 3 rfl rfl rfl rfl rfl ?_
        refine ev_ls (L' := [some (.retAddr 0), some (.ref 0), some (.ref 247), some (.ref 261), some (.ref 262), some (.int (a5 + 6)), some (.int v785), some (.int v790), u8, none]) (st' := []) (pc' := 3192) hk (.iinc 5 6) 3 rfl rfl rfl rfl ?_
        refine ev_jp (pc' := 28) (st' := []) hk (.goto (-3164)) 3 rfl rfl rfl rfl rfl ?_
        cases hx
        exact hM (some (.int v785)) (some (.int v790)) rfl u8
      · refine ev_op (st' := [.int 0]) (pc' := 1980) hk (.iconst 0) 1 rfl rfl rfl ?_
        cases hx
        obtain rfl := hM
        exact ev_retZ false rfl hk rfl rfl
  · refine ev_op (st' := [.int 0]) (pc' := 1963) hk (.iconst 0) 1 rfl rfl rfl ?_
    cases hx
    obtain rfl := hM
    exact ev_retZ false rfl hk rfl rfl
set_option maxRecDepth 4000 in
theorem rw_law_j1984 {S : Nat} {xs : Nat → Int32} {I : zI} {C : zC} {Y : Nat → Int32} {Γ : Nat → zG} {D : zD} {O : Nat → Int32} {M : zM} {ou : Nat → Int64} {od : Nat → UInt64} {j : Nat} {a5 : Int32} {y : (Option Value ⊕ String) × px_H} {x : (zI × zC × (Nat → Int32) × (Nat → zG) × zD × (Nat → Int32) × zM × (Nat → Int64) × (Nat → UInt64) × Nat × Int32) ⊕ (Bool × zI × zC × (Nat → Int32) × (Nat → zG) × zD × (Nat → Int32) × zM × (Nat → Int64) × (Nat → UInt64) × Nat)}  (hx : fw_law_j1984 S xs I C Y Γ D O M ou od j a5 = some x) (hM : (Sum.elim (qw_law_28 S xs y) (fun X : Bool × zI × zC × (Nat → Int32) × (Nat → zG) × zD × (Nat → Int32) × zM × (Nat → Int64) × (Nat → UInt64) × Nat => y = (((.inl (some (.int (b2i X.1)))), (zH X.2.1 X.2.2.1 X.2.2.2.1 X.2.2.2.2.1 X.2.2.2.2.2.1 X.2.2.2.2.2.2.1 X.2.2.2.2.2.2.2.1 X.2.2.2.2.2.2.2.2.1 X.2.2.2.2.2.2.2.2.2.1 X.2.2.2.2.2.2.2.2.2.2)) : (Option Value ⊕ String) × px_H))) x) (u6 : Option Value) (u7 : Option Value) (hu7 : px_cz u7 = true) (u8 : Option Value) : Ev S xs 412 1984 [some (.retAddr 0), some (.ref 0), some (.ref 247), some (.ref 261), some (.ref 262), some (.int a5), u6, u7, u8, none] [] (zH I C Y Γ D O M ou od j) y := by
  have hk : pt_mt[412]? = some pt_r412 := rfl
  unfold fw_law_j1984 at hx
  refine ev_ls (L' := [some (.retAddr 0), some (.ref 0), some (.ref 247), some (.ref 261), some (.ref 262), some (.int a5), u6, u7, u8, none]) (st' := [.ref 0]) (pc' := 1985) hk (.aload_n 1) 1 rfl rfl rfl rfl ?_
  refine ev_ls (L' := [some (.retAddr 0), some (.ref 0), some (.ref 247), some (.ref 261), some (.ref 262), some (.int a5), u6, u7, u8, none]) (st' := [.retAddr 0, .ref 0]) (pc' := 1986) hk (.aload_n 0) 1 rfl rfl rfl rfl ?_
  refine ev_ls (L' := [some (.retAddr 0), some (.ref 0), some (.ref 247), some (.ref 261), some (.ref 262), some (.int a5), u6, u7, u8, none]) (st' := [.int a5, .retAddr 0, .ref 0]) (pc' := 1988) hk (.iload 5) 2 rfl rfl rfl rfl ?_
  refine ev_op (st' := [.int 1, .int a5, .retAddr 0, .ref 0]) (pc' := 1989) hk (.iconst 1) 1 rfl rfl rfl ?_
  refine ev_op (st' := [.int (a5 + 1), .retAddr 0, .ref 0]) (pc' := 1990) hk (.iadd) 1 rfl rfl rfl ?_
  obtain ⟨v792, hv792, hx⟩ := bnd_some hx
  refine ev_sal hv792 1991 hk rfl rfl ?_
  refine ev_ls (L' := [some (.retAddr 0), some (.ref 0), some (.ref 247), some (.ref 261), some (.ref 262), some (.int a5), u6, u7, u8, none]) (st' := [.retAddr 0, .int v792, .ref 0]) (pc' := 1992) hk (.aload_n 0) 1 rfl rfl rfl rfl ?_
  refine ev_ls (L' := [some (.retAddr 0), some (.ref 0), some (.ref 247), some (.ref 261), some (.ref 262), some (.int a5), u6, u7, u8, none]) (st' := [.int a5, .retAddr 0, .int v792, .ref 0]) (pc' := 1994) hk (.iload 5) 2 rfl rfl rfl rfl ?_
  refine ev_op (st' := [.int 2, .int a5, .retAddr 0, .int v792, .ref 0]) (pc' := 1995) hk (.iconst 2) 1 rfl rfl rfl ?_
  refine ev_op (st' := [.int (a5 + 2), .retAddr 0, .int v792, .ref 0]) (pc' := 1996) hk (.iadd) 1 rfl rfl rfl ?_
  obtain ⟨v793, hv793, hx⟩ := bnd_some hx
  refine ev_sal hv793 1997 hk rfl rfl ?_
  refine ev_ls (L' := [some (.retAddr 0), some (.ref 0), some (.ref 247), some (.ref 261), some (.ref 262), some (.int a5), u6, u7, u8, none]) (st' := [.ref 261, .int v793, .int v792, .ref 0]) (pc' := 1998) hk (.aload_n 3) 1 rfl rfl rfl rfl ?_
  obtain ⟨v796, ou794, j795, hc797, hx⟩ := bnd3_some hx
  refine ev_cs 389 4 [.int v796] 2001 hk rfl rfl (by decide) rfl rfl rfl (rw_labelObstacle hc797) rfl rfl rfl rfl ?_
  refine ev_ls (L' := [some (.retAddr 0), some (.ref 0), some (.ref 247), some (.ref 261), some (.ref 262), some (.int a5), some (.int v796), u7, u8, none]) (st' := []) (pc' := 2003) hk (.istore 6) 2 rfl rfl rfl rfl ?_
  refine ev_ls (L' := [some (.retAddr 0), some (.ref 0), some (.ref 247), some (.ref 261), some (.ref 262), some (.int a5), some (.int v796), u7, u8, none]) (st' := [.ref 247]) (pc' := 2004) hk (.aload_n 2) 1 rfl rfl rfl rfl ?_
  refine ev_ls (L' := [some (.retAddr 0), some (.ref 0), some (.ref 247), some (.ref 261), some (.ref 262), some (.int a5), some (.int v796), u7, u8, none]) (st' := [.retAddr 0, .ref 247]) (pc' := 2005) hk (.aload_n 0) 1 rfl rfl rfl rfl ?_
  refine ev_ls (L' := [some (.retAddr 0), some (.ref 0), some (.ref 247), some (.ref 261), some (.ref 262), some (.int a5), some (.int v796), u7, u8, none]) (st' := [.int a5, .retAddr 0, .ref 247]) (pc' := 2007) hk (.iload 5) 2 rfl rfl rfl rfl ?_
  refine ev_op (st' := [.int 1, .int a5, .retAddr 0, .ref 247]) (pc' := 2008) hk (.iconst 1) 1 rfl rfl rfl ?_
  refine ev_op (st' := [.int (a5 + 1), .retAddr 0, .ref 247]) (pc' := 2009) hk (.iadd) 1 rfl rfl rfl ?_
  obtain ⟨v798, hv798, hx⟩ := bnd_some hx
  refine ev_sal hv798 2010 hk rfl rfl ?_
  refine ev_ls (L' := [some (.retAddr 0), some (.ref 0), some (.ref 247), some (.ref 261), some (.ref 262), some (.int a5), some (.int v796), u7, u8, none]) (st' := [.retAddr 0, .int v798, .ref 247]) (pc' := 2011) hk (.aload_n 0) 1 rfl rfl rfl rfl ?_
  refine ev_ls (L' := [some (.retAddr 0), some (.ref 0), some (.ref 247), some (.ref 261), some (.ref 262), some (.int a5), some (.int v796), u7, u8, none]) (st' := [.int a5, .retAddr 0, .int v798, .ref 247]) (pc' := 2013) hk (.iload 5) 2 rfl rfl rfl rfl ?_
  refine ev_op (st' := [.int 2, .int a5, .retAddr 0, .int v798, .ref 247]) (pc' := 2014) hk (.iconst 2) 1 rfl rfl rfl ?_
  refine ev_op (st' := [.int (a5 + 2), .retAddr 0, .int v798, .ref 247]) (pc' := 2015) hk (.iadd) 1 rfl rfl rfl ?_
  obtain ⟨v799, hv799, hx⟩ := bnd_some hx
  refine ev_sal hv799 2016 hk rfl rfl ?_
  obtain ⟨v801, M800, hc802, hx⟩ := bnd2_some hx
  refine ev_cv 112 2 [.int v801] 2019 hk rfl rfl rfl rfl lk_model rfl rfl rfl (rM_labelObstacle hc802) rfl rfl rfl rfl ?_
  refine ev_ls (L' := [some (.retAddr 0), some (.ref 0), some (.ref 247), some (.ref 261), some (.ref 262), some (.int a5), some (.int v796), some (.int v801), u8, none]) (st' := []) (pc' := 2021) hk (.istore 7) 2 rfl rfl rfl rfl ?_
  refine ev_ls (L' := [some (.retAddr 0), some (.ref 0), some (.ref 247), some (.ref 261), some (.ref 262), some (.int a5), some (.int v796), some (.int v801), u8, none]) (st' := [.ref 247]) (pc' := 2022) hk (.aload_n 2) 1 rfl rfl rfl rfl ?_
  refine ev_cv 183 0 [.int (fM_thrown M800)] 2025 hk rfl rfl rfl rfl lk_model rfl rfl rfl (rM_thrown rfl) rfl rfl rfl rfl ?_
  refine ev_ls (L' := [some (.retAddr 0), some (.ref 0), some (.ref 247), some (.ref 261), some (.ref 262), some (.int a5), some (.int v796), some (.int v801), u8, none]) (st' := [.int v796, .int (fM_thrown M800)]) (pc' := 2027) hk (.iload 6) 2 rfl rfl rfl rfl ?_
  refine ev_d2 2032 2030 hk rfl rfl rfl rfl (px_ceq hx (fun hc hx => ?_) (fun hc hx => ?_))
  · refine ev_ls (L' := [some (.retAddr 0), some (.ref 0), some (.ref 247), some (.ref 261), some (.ref 262), some (.int a5), some (.int v796), some (.int v801), u8, none]) (st' := [.int v796]) (pc' := 2034) hk (.iload 6) 2 rfl rfl rfl rfl ?_
    refine ev_d1 2049 2037 hk rfl rfl rfl rfl (px_cne hx (fun hc hx => ?_) (fun hc hx => ?_))
    · refine ev_jp (pc' := 3189) (st' := []) hk (.goto 1140) 3 rfl rfl rfl rfl rfl ?_
      refine ev_ls (L' := [some (.retAddr 0), some (.ref 0), some (.ref 247), some (.ref 261), some (.ref 262), some (.int (a5 + 6)), some (.int v796), some (.int v801), u8, none]) (st' := []) (pc' := 3192) hk (.iinc 5 6) 3 rfl rfl rfl rfl ?_
      refine ev_jp (pc' := 28) (st' := []) hk (.goto (-3164)) 3 rfl rfl rfl rfl rfl ?_
      cases hx
      exact hM (some (.int v796)) (some (.int v801)) rfl u8
    · refine ev_ls (L' := [some (.retAddr 0), some (.ref 0), some (.ref 247), some (.ref 261), some (.ref 262), some (.int a5), some (.int v796), some (.int v801), u8, none]) (st' := [.ref 261]) (pc' := 2038) hk (.aload_n 3) 1 rfl rfl rfl rfl ?_
      refine ev_op (st' := [.int 0, .ref 261]) (pc' := 2039) hk (.iconst 0) 1 rfl rfl rfl ?_
      refine ev_lal (v := (ou794 0)) rfl 2040 hk rfl lk_ou rfl ?_
      refine ev_ls (L' := [some (.retAddr 0), some (.ref 0), some (.ref 247), some (.ref 261), some (.ref 262), some (.int a5), some (.int v796), some (.int v801), u8, none]) (st' := [.int v801, .long (ou794 0)]) (pc' := 2042) hk (.iload 7) 2 rfl rfl rfl rfl ?_
      refine ev_op (st' := [.long (Int32.toInt64 v801), .long (ou794 0)]) (pc' := 2043) hk (.i2l) 1 rfl rfl rfl ?_
      refine ev_op (st' := [.int (lg_cmp (ou794 0) (Int32.toInt64 v801))]) (pc' := 2044) hk (.lcmp) 1 rfl rfl rfl ?_
      refine ev_d1 2049 2047 hk rfl rfl rfl rfl (px_leq hx (fun hc hx => ?_) (fun hc hx => ?_))
      · refine ev_jp (pc' := 3189) (st' := []) hk (.goto 1140) 3 rfl rfl rfl rfl rfl ?_
        refine ev_ls (L' := [some (.retAddr 0), some (.ref 0), some (.ref 247), some (.ref 261), some (.ref 262), some (.int (a5 + 6)), some (.int v796), some (.int v801), u8, none]) (st' := []) (pc' := 3192) hk (.iinc 5 6) 3 rfl rfl rfl rfl ?_
        refine ev_jp (pc' := 28) (st' := []) hk (.goto (-3164)) 3 rfl rfl rfl rfl rfl ?_
        cases hx
        exact hM (some (.int v796)) (some (.int v801)) rfl u8
      · refine ev_op (st' := [.int 0]) (pc' := 2048) hk (.iconst 0) 1 rfl rfl rfl ?_
        cases hx
        obtain rfl := hM
        exact ev_retZ false rfl hk rfl rfl
  · refine ev_op (st' := [.int 0]) (pc' := 2031) hk (.iconst 0) 1 rfl rfl rfl ?_
    cases hx
    obtain rfl := hM
    exact ev_retZ false rfl hk rfl rfl
set_option maxRecDepth 4000 in
theorem rw_law_j2052 {S : Nat} {xs : Nat → Int32} {I : zI} {C : zC} {Y : Nat → Int32} {Γ : Nat → zG} {D : zD} {O : Nat → Int32} {M : zM} {ou : Nat → Int64} {od : Nat → UInt64} {j : Nat} {a5 : Int32} {y : (Option Value ⊕ String) × px_H} {x : (zI × zC × (Nat → Int32) × (Nat → zG) × zD × (Nat → Int32) × zM × (Nat → Int64) × (Nat → UInt64) × Nat × Int32) ⊕ (Bool × zI × zC × (Nat → Int32) × (Nat → zG) × zD × (Nat → Int32) × zM × (Nat → Int64) × (Nat → UInt64) × Nat)}  (hx : fw_law_j2052 S xs I C Y Γ D O M ou od j a5 = some x) (hM : (Sum.elim (qw_law_28 S xs y) (fun X : Bool × zI × zC × (Nat → Int32) × (Nat → zG) × zD × (Nat → Int32) × zM × (Nat → Int64) × (Nat → UInt64) × Nat => y = (((.inl (some (.int (b2i X.1)))), (zH X.2.1 X.2.2.1 X.2.2.2.1 X.2.2.2.2.1 X.2.2.2.2.2.1 X.2.2.2.2.2.2.1 X.2.2.2.2.2.2.2.1 X.2.2.2.2.2.2.2.2.1 X.2.2.2.2.2.2.2.2.2.1 X.2.2.2.2.2.2.2.2.2.2)) : (Option Value ⊕ String) × px_H))) x) (u6 : Option Value) (u7 : Option Value) (hu7 : px_cz u7 = true) (u8 : Option Value) : Ev S xs 412 2052 [some (.retAddr 0), some (.ref 0), some (.ref 247), some (.ref 261), some (.ref 262), some (.int a5), u6, u7, u8, none] [] (zH I C Y Γ D O M ou od j) y := by
  have hk : pt_mt[412]? = some pt_r412 := rfl
  unfold fw_law_j2052 at hx
  refine ev_ls (L' := [some (.retAddr 0), some (.ref 0), some (.ref 247), some (.ref 261), some (.ref 262), some (.int a5), u6, u7, u8, none]) (st' := [.ref 0]) (pc' := 2053) hk (.aload_n 1) 1 rfl rfl rfl rfl ?_
  refine ev_ls (L' := [some (.retAddr 0), some (.ref 0), some (.ref 247), some (.ref 261), some (.ref 262), some (.int a5), u6, u7, u8, none]) (st' := [.retAddr 0, .ref 0]) (pc' := 2054) hk (.aload_n 0) 1 rfl rfl rfl rfl ?_
  refine ev_ls (L' := [some (.retAddr 0), some (.ref 0), some (.ref 247), some (.ref 261), some (.ref 262), some (.int a5), u6, u7, u8, none]) (st' := [.int a5, .retAddr 0, .ref 0]) (pc' := 2056) hk (.iload 5) 2 rfl rfl rfl rfl ?_
  refine ev_op (st' := [.int 1, .int a5, .retAddr 0, .ref 0]) (pc' := 2057) hk (.iconst 1) 1 rfl rfl rfl ?_
  refine ev_op (st' := [.int (a5 + 1), .retAddr 0, .ref 0]) (pc' := 2058) hk (.iadd) 1 rfl rfl rfl ?_
  obtain ⟨v803, hv803, hx⟩ := bnd_some hx
  refine ev_sal hv803 2059 hk rfl rfl ?_
  refine ev_ls (L' := [some (.retAddr 0), some (.ref 0), some (.ref 247), some (.ref 261), some (.ref 262), some (.int a5), u6, u7, u8, none]) (st' := [.retAddr 0, .int v803, .ref 0]) (pc' := 2060) hk (.aload_n 0) 1 rfl rfl rfl rfl ?_
  refine ev_ls (L' := [some (.retAddr 0), some (.ref 0), some (.ref 247), some (.ref 261), some (.ref 262), some (.int a5), u6, u7, u8, none]) (st' := [.int a5, .retAddr 0, .int v803, .ref 0]) (pc' := 2062) hk (.iload 5) 2 rfl rfl rfl rfl ?_
  refine ev_op (st' := [.int 2, .int a5, .retAddr 0, .int v803, .ref 0]) (pc' := 2063) hk (.iconst 2) 1 rfl rfl rfl ?_
  refine ev_op (st' := [.int (a5 + 2), .retAddr 0, .int v803, .ref 0]) (pc' := 2064) hk (.iadd) 1 rfl rfl rfl ?_
  obtain ⟨v804, hv804, hx⟩ := bnd_some hx
  refine ev_sal hv804 2065 hk rfl rfl ?_
  refine ev_ls (L' := [some (.retAddr 0), some (.ref 0), some (.ref 247), some (.ref 261), some (.ref 262), some (.int a5), u6, u7, u8, none]) (st' := [.ref 261, .int v804, .int v803, .ref 0]) (pc' := 2066) hk (.aload_n 3) 1 rfl rfl rfl rfl ?_
  obtain ⟨v807, ou805, j806, hc808, hx⟩ := bnd3_some hx
  refine ev_cs 405 4 [.int v807] 2069 hk rfl rfl (by decide) rfl rfl rfl (rw_stepObstacle hc808) rfl rfl rfl rfl ?_
  refine ev_ls (L' := [some (.retAddr 0), some (.ref 0), some (.ref 247), some (.ref 261), some (.ref 262), some (.int a5), some (.int v807), u7, u8, none]) (st' := []) (pc' := 2071) hk (.istore 6) 2 rfl rfl rfl rfl ?_
  refine ev_ls (L' := [some (.retAddr 0), some (.ref 0), some (.ref 247), some (.ref 261), some (.ref 262), some (.int a5), some (.int v807), u7, u8, none]) (st' := [.ref 247]) (pc' := 2072) hk (.aload_n 2) 1 rfl rfl rfl rfl ?_
  refine ev_ls (L' := [some (.retAddr 0), some (.ref 0), some (.ref 247), some (.ref 261), some (.ref 262), some (.int a5), some (.int v807), u7, u8, none]) (st' := [.retAddr 0, .ref 247]) (pc' := 2073) hk (.aload_n 0) 1 rfl rfl rfl rfl ?_
  refine ev_ls (L' := [some (.retAddr 0), some (.ref 0), some (.ref 247), some (.ref 261), some (.ref 262), some (.int a5), some (.int v807), u7, u8, none]) (st' := [.int a5, .retAddr 0, .ref 247]) (pc' := 2075) hk (.iload 5) 2 rfl rfl rfl rfl ?_
  refine ev_op (st' := [.int 1, .int a5, .retAddr 0, .ref 247]) (pc' := 2076) hk (.iconst 1) 1 rfl rfl rfl ?_
  refine ev_op (st' := [.int (a5 + 1), .retAddr 0, .ref 247]) (pc' := 2077) hk (.iadd) 1 rfl rfl rfl ?_
  obtain ⟨v809, hv809, hx⟩ := bnd_some hx
  refine ev_sal hv809 2078 hk rfl rfl ?_
  refine ev_ls (L' := [some (.retAddr 0), some (.ref 0), some (.ref 247), some (.ref 261), some (.ref 262), some (.int a5), some (.int v807), u7, u8, none]) (st' := [.retAddr 0, .int v809, .ref 247]) (pc' := 2079) hk (.aload_n 0) 1 rfl rfl rfl rfl ?_
  refine ev_ls (L' := [some (.retAddr 0), some (.ref 0), some (.ref 247), some (.ref 261), some (.ref 262), some (.int a5), some (.int v807), u7, u8, none]) (st' := [.int a5, .retAddr 0, .int v809, .ref 247]) (pc' := 2081) hk (.iload 5) 2 rfl rfl rfl rfl ?_
  refine ev_op (st' := [.int 2, .int a5, .retAddr 0, .int v809, .ref 247]) (pc' := 2082) hk (.iconst 2) 1 rfl rfl rfl ?_
  refine ev_op (st' := [.int (a5 + 2), .retAddr 0, .int v809, .ref 247]) (pc' := 2083) hk (.iadd) 1 rfl rfl rfl ?_
  obtain ⟨v810, hv810, hx⟩ := bnd_some hx
  refine ev_sal hv810 2084 hk rfl rfl ?_
  obtain ⟨v812, M811, hc813, hx⟩ := bnd2_some hx
  refine ev_cv 172 2 [.int v812] 2087 hk rfl rfl rfl rfl lk_model rfl rfl rfl (rM_stepObstacle hc813) rfl rfl rfl rfl ?_
  refine ev_ls (L' := [some (.retAddr 0), some (.ref 0), some (.ref 247), some (.ref 261), some (.ref 262), some (.int a5), some (.int v807), some (.int v812), u8, none]) (st' := []) (pc' := 2089) hk (.istore 7) 2 rfl rfl rfl rfl ?_
  refine ev_ls (L' := [some (.retAddr 0), some (.ref 0), some (.ref 247), some (.ref 261), some (.ref 262), some (.int a5), some (.int v807), some (.int v812), u8, none]) (st' := [.ref 247]) (pc' := 2090) hk (.aload_n 2) 1 rfl rfl rfl rfl ?_
  refine ev_cv 183 0 [.int (fM_thrown M811)] 2093 hk rfl rfl rfl rfl lk_model rfl rfl rfl (rM_thrown rfl) rfl rfl rfl rfl ?_
  refine ev_ls (L' := [some (.retAddr 0), some (.ref 0), some (.ref 247), some (.ref 261), some (.ref 262), some (.int a5), some (.int v807), some (.int v812), u8, none]) (st' := [.int v807, .int (fM_thrown M811)]) (pc' := 2095) hk (.iload 6) 2 rfl rfl rfl rfl ?_
  refine ev_d2 2100 2098 hk rfl rfl rfl rfl (px_ceq hx (fun hc hx => ?_) (fun hc hx => ?_))
  · refine ev_ls (L' := [some (.retAddr 0), some (.ref 0), some (.ref 247), some (.ref 261), some (.ref 262), some (.int a5), some (.int v807), some (.int v812), u8, none]) (st' := [.int v807]) (pc' := 2102) hk (.iload 6) 2 rfl rfl rfl rfl ?_
    refine ev_d1 2117 2105 hk rfl rfl rfl rfl (px_cne hx (fun hc hx => ?_) (fun hc hx => ?_))
    · refine ev_jp (pc' := 3189) (st' := []) hk (.goto 1072) 3 rfl rfl rfl rfl rfl ?_
      refine ev_ls (L' := [some (.retAddr 0), some (.ref 0), some (.ref 247), some (.ref 261), some (.ref 262), some (.int (a5 + 6)), some (.int v807), some (.int v812), u8, none]) (st' := []) (pc' := 3192) hk (.iinc 5 6) 3 rfl rfl rfl rfl ?_
      refine ev_jp (pc' := 28) (st' := []) hk (.goto (-3164)) 3 rfl rfl rfl rfl rfl ?_
      cases hx
      exact hM (some (.int v807)) (some (.int v812)) rfl u8
    · refine ev_ls (L' := [some (.retAddr 0), some (.ref 0), some (.ref 247), some (.ref 261), some (.ref 262), some (.int a5), some (.int v807), some (.int v812), u8, none]) (st' := [.ref 261]) (pc' := 2106) hk (.aload_n 3) 1 rfl rfl rfl rfl ?_
      refine ev_op (st' := [.int 0, .ref 261]) (pc' := 2107) hk (.iconst 0) 1 rfl rfl rfl ?_
      refine ev_lal (v := (ou805 0)) rfl 2108 hk rfl lk_ou rfl ?_
      refine ev_ls (L' := [some (.retAddr 0), some (.ref 0), some (.ref 247), some (.ref 261), some (.ref 262), some (.int a5), some (.int v807), some (.int v812), u8, none]) (st' := [.int v812, .long (ou805 0)]) (pc' := 2110) hk (.iload 7) 2 rfl rfl rfl rfl ?_
      refine ev_op (st' := [.long (Int32.toInt64 v812), .long (ou805 0)]) (pc' := 2111) hk (.i2l) 1 rfl rfl rfl ?_
      refine ev_op (st' := [.int (lg_cmp (ou805 0) (Int32.toInt64 v812))]) (pc' := 2112) hk (.lcmp) 1 rfl rfl rfl ?_
      refine ev_d1 2117 2115 hk rfl rfl rfl rfl (px_leq hx (fun hc hx => ?_) (fun hc hx => ?_))
      · refine ev_jp (pc' := 3189) (st' := []) hk (.goto 1072) 3 rfl rfl rfl rfl rfl ?_
        refine ev_ls (L' := [some (.retAddr 0), some (.ref 0), some (.ref 247), some (.ref 261), some (.ref 262), some (.int (a5 + 6)), some (.int v807), some (.int v812), u8, none]) (st' := []) (pc' := 3192) hk (.iinc 5 6) 3 rfl rfl rfl rfl ?_
        refine ev_jp (pc' := 28) (st' := []) hk (.goto (-3164)) 3 rfl rfl rfl rfl rfl ?_
        cases hx
        exact hM (some (.int v807)) (some (.int v812)) rfl u8
      · refine ev_op (st' := [.int 0]) (pc' := 2116) hk (.iconst 0) 1 rfl rfl rfl ?_
        cases hx
        obtain rfl := hM
        exact ev_retZ false rfl hk rfl rfl
  · refine ev_op (st' := [.int 0]) (pc' := 2099) hk (.iconst 0) 1 rfl rfl rfl ?_
    cases hx
    obtain rfl := hM
    exact ev_retZ false rfl hk rfl rfl
set_option maxRecDepth 4000 in
theorem rw_law_j2120 {S : Nat} {xs : Nat → Int32} {I : zI} {C : zC} {Y : Nat → Int32} {Γ : Nat → zG} {D : zD} {O : Nat → Int32} {M : zM} {ou : Nat → Int64} {od : Nat → UInt64} {j : Nat} {a5 : Int32} {y : (Option Value ⊕ String) × px_H} {x : (zI × zC × (Nat → Int32) × (Nat → zG) × zD × (Nat → Int32) × zM × (Nat → Int64) × (Nat → UInt64) × Nat × Int32) ⊕ (Bool × zI × zC × (Nat → Int32) × (Nat → zG) × zD × (Nat → Int32) × zM × (Nat → Int64) × (Nat → UInt64) × Nat)}  (hx : fw_law_j2120 S xs I C Y Γ D O M ou od j a5 = some x) (hM : (Sum.elim (qw_law_28 S xs y) (fun X : Bool × zI × zC × (Nat → Int32) × (Nat → zG) × zD × (Nat → Int32) × zM × (Nat → Int64) × (Nat → UInt64) × Nat => y = (((.inl (some (.int (b2i X.1)))), (zH X.2.1 X.2.2.1 X.2.2.2.1 X.2.2.2.2.1 X.2.2.2.2.2.1 X.2.2.2.2.2.2.1 X.2.2.2.2.2.2.2.1 X.2.2.2.2.2.2.2.2.1 X.2.2.2.2.2.2.2.2.2.1 X.2.2.2.2.2.2.2.2.2.2)) : (Option Value ⊕ String) × px_H))) x) (u6 : Option Value) (u7 : Option Value) (hu7 : px_cz u7 = true) (u8 : Option Value) : Ev S xs 412 2120 [some (.retAddr 0), some (.ref 0), some (.ref 247), some (.ref 261), some (.ref 262), some (.int a5), u6, u7, u8, none] [] (zH I C Y Γ D O M ou od j) y := by
  have hk : pt_mt[412]? = some pt_r412 := rfl
  unfold fw_law_j2120 at hx
  refine ev_ls (L' := [some (.retAddr 0), some (.ref 0), some (.ref 247), some (.ref 261), some (.ref 262), some (.int a5), u6, u7, u8, none]) (st' := [.ref 0]) (pc' := 2121) hk (.aload_n 1) 1 rfl rfl rfl rfl ?_
  refine ev_ls (L' := [some (.retAddr 0), some (.ref 0), some (.ref 247), some (.ref 261), some (.ref 262), some (.int a5), u6, u7, u8, none]) (st' := [.retAddr 0, .ref 0]) (pc' := 2122) hk (.aload_n 0) 1 rfl rfl rfl rfl ?_
  refine ev_ls (L' := [some (.retAddr 0), some (.ref 0), some (.ref 247), some (.ref 261), some (.ref 262), some (.int a5), u6, u7, u8, none]) (st' := [.int a5, .retAddr 0, .ref 0]) (pc' := 2124) hk (.iload 5) 2 rfl rfl rfl rfl ?_
  refine ev_op (st' := [.int 1, .int a5, .retAddr 0, .ref 0]) (pc' := 2125) hk (.iconst 1) 1 rfl rfl rfl ?_
  refine ev_op (st' := [.int (a5 + 1), .retAddr 0, .ref 0]) (pc' := 2126) hk (.iadd) 1 rfl rfl rfl ?_
  obtain ⟨v814, hv814, hx⟩ := bnd_some hx
  refine ev_sal hv814 2127 hk rfl rfl ?_
  refine ev_ls (L' := [some (.retAddr 0), some (.ref 0), some (.ref 247), some (.ref 261), some (.ref 262), some (.int a5), u6, u7, u8, none]) (st' := [.ref 261, .int v814, .ref 0]) (pc' := 2128) hk (.aload_n 3) 1 rfl rfl rfl rfl ?_
  obtain ⟨v818, Γ815, ou816, j817, hc819, hx⟩ := bnd4_some hx
  refine ev_cs 382 3 [.int v818] 2131 hk rfl rfl (by decide) rfl rfl rfl (rw_hoursUntilTear hc819) rfl rfl rfl rfl ?_
  refine ev_ls (L' := [some (.retAddr 0), some (.ref 0), some (.ref 247), some (.ref 261), some (.ref 262), some (.int a5), some (.int v818), u7, u8, none]) (st' := []) (pc' := 2133) hk (.istore 6) 2 rfl rfl rfl rfl ?_
  refine ev_ls (L' := [some (.retAddr 0), some (.ref 0), some (.ref 247), some (.ref 261), some (.ref 262), some (.int a5), some (.int v818), u7, u8, none]) (st' := [.ref 247]) (pc' := 2134) hk (.aload_n 2) 1 rfl rfl rfl rfl ?_
  refine ev_ls (L' := [some (.retAddr 0), some (.ref 0), some (.ref 247), some (.ref 261), some (.ref 262), some (.int a5), some (.int v818), u7, u8, none]) (st' := [.retAddr 0, .ref 247]) (pc' := 2135) hk (.aload_n 0) 1 rfl rfl rfl rfl ?_
  refine ev_ls (L' := [some (.retAddr 0), some (.ref 0), some (.ref 247), some (.ref 261), some (.ref 262), some (.int a5), some (.int v818), u7, u8, none]) (st' := [.int a5, .retAddr 0, .ref 247]) (pc' := 2137) hk (.iload 5) 2 rfl rfl rfl rfl ?_
  refine ev_op (st' := [.int 1, .int a5, .retAddr 0, .ref 247]) (pc' := 2138) hk (.iconst 1) 1 rfl rfl rfl ?_
  refine ev_op (st' := [.int (a5 + 1), .retAddr 0, .ref 247]) (pc' := 2139) hk (.iadd) 1 rfl rfl rfl ?_
  obtain ⟨v820, hv820, hx⟩ := bnd_some hx
  refine ev_sal hv820 2140 hk rfl rfl ?_
  obtain ⟨v822, M821, hc823, hx⟩ := bnd2_some hx
  refine ev_cv 75 1 [.int v822] 2143 hk rfl rfl rfl rfl lk_model rfl rfl rfl (rM_hoursUntilTear hc823) rfl rfl rfl rfl ?_
  refine ev_ls (L' := [some (.retAddr 0), some (.ref 0), some (.ref 247), some (.ref 261), some (.ref 262), some (.int a5), some (.int v818), some (.int v822), u8, none]) (st' := []) (pc' := 2145) hk (.istore 7) 2 rfl rfl rfl rfl ?_
  refine ev_ls (L' := [some (.retAddr 0), some (.ref 0), some (.ref 247), some (.ref 261), some (.ref 262), some (.int a5), some (.int v818), some (.int v822), u8, none]) (st' := [.ref 247]) (pc' := 2146) hk (.aload_n 2) 1 rfl rfl rfl rfl ?_
  refine ev_cv 183 0 [.int (fM_thrown M821)] 2149 hk rfl rfl rfl rfl lk_model rfl rfl rfl (rM_thrown rfl) rfl rfl rfl rfl ?_
  refine ev_ls (L' := [some (.retAddr 0), some (.ref 0), some (.ref 247), some (.ref 261), some (.ref 262), some (.int a5), some (.int v818), some (.int v822), u8, none]) (st' := [.int v818, .int (fM_thrown M821)]) (pc' := 2151) hk (.iload 6) 2 rfl rfl rfl rfl ?_
  refine ev_d2 2156 2154 hk rfl rfl rfl rfl (px_ceq hx (fun hc hx => ?_) (fun hc hx => ?_))
  · refine ev_ls (L' := [some (.retAddr 0), some (.ref 0), some (.ref 247), some (.ref 261), some (.ref 262), some (.int a5), some (.int v818), some (.int v822), u8, none]) (st' := [.int v818]) (pc' := 2158) hk (.iload 6) 2 rfl rfl rfl rfl ?_
    refine ev_d1 2173 2161 hk rfl rfl rfl rfl (px_cne hx (fun hc hx => ?_) (fun hc hx => ?_))
    · refine ev_jp (pc' := 3189) (st' := []) hk (.goto 1016) 3 rfl rfl rfl rfl rfl ?_
      refine ev_ls (L' := [some (.retAddr 0), some (.ref 0), some (.ref 247), some (.ref 261), some (.ref 262), some (.int (a5 + 6)), some (.int v818), some (.int v822), u8, none]) (st' := []) (pc' := 3192) hk (.iinc 5 6) 3 rfl rfl rfl rfl ?_
      refine ev_jp (pc' := 28) (st' := []) hk (.goto (-3164)) 3 rfl rfl rfl rfl rfl ?_
      cases hx
      exact hM (some (.int v818)) (some (.int v822)) rfl u8
    · refine ev_ls (L' := [some (.retAddr 0), some (.ref 0), some (.ref 247), some (.ref 261), some (.ref 262), some (.int a5), some (.int v818), some (.int v822), u8, none]) (st' := [.ref 261]) (pc' := 2162) hk (.aload_n 3) 1 rfl rfl rfl rfl ?_
      refine ev_op (st' := [.int 0, .ref 261]) (pc' := 2163) hk (.iconst 0) 1 rfl rfl rfl ?_
      refine ev_lal (v := (ou816 0)) rfl 2164 hk rfl lk_ou rfl ?_
      refine ev_ls (L' := [some (.retAddr 0), some (.ref 0), some (.ref 247), some (.ref 261), some (.ref 262), some (.int a5), some (.int v818), some (.int v822), u8, none]) (st' := [.int v822, .long (ou816 0)]) (pc' := 2166) hk (.iload 7) 2 rfl rfl rfl rfl ?_
      refine ev_op (st' := [.long (Int32.toInt64 v822), .long (ou816 0)]) (pc' := 2167) hk (.i2l) 1 rfl rfl rfl ?_
      refine ev_op (st' := [.int (lg_cmp (ou816 0) (Int32.toInt64 v822))]) (pc' := 2168) hk (.lcmp) 1 rfl rfl rfl ?_
      refine ev_d1 2173 2171 hk rfl rfl rfl rfl (px_leq hx (fun hc hx => ?_) (fun hc hx => ?_))
      · refine ev_jp (pc' := 3189) (st' := []) hk (.goto 1016) 3 rfl rfl rfl rfl rfl ?_
        refine ev_ls (L' := [some (.retAddr 0), some (.ref 0), some (.ref 247), some (.ref 261), some (.ref 262), some (.int (a5 + 6)), some (.int v818), some (.int v822), u8, none]) (st' := []) (pc' := 3192) hk (.iinc 5 6) 3 rfl rfl rfl rfl ?_
        refine ev_jp (pc' := 28) (st' := []) hk (.goto (-3164)) 3 rfl rfl rfl rfl rfl ?_
        cases hx
        exact hM (some (.int v818)) (some (.int v822)) rfl u8
      · refine ev_op (st' := [.int 0]) (pc' := 2172) hk (.iconst 0) 1 rfl rfl rfl ?_
        cases hx
        obtain rfl := hM
        exact ev_retZ false rfl hk rfl rfl
  · refine ev_op (st' := [.int 0]) (pc' := 2155) hk (.iconst 0) 1 rfl rfl rfl ?_
    cases hx
    obtain rfl := hM
    exact ev_retZ false rfl hk rfl rfl
set_option maxRecDepth 4000 in
theorem rw_law_j2176 {S : Nat} {xs : Nat → Int32} {I : zI} {C : zC} {Y : Nat → Int32} {Γ : Nat → zG} {D : zD} {O : Nat → Int32} {M : zM} {ou : Nat → Int64} {od : Nat → UInt64} {j : Nat} {a5 : Int32} {y : (Option Value ⊕ String) × px_H} {x : (zI × zC × (Nat → Int32) × (Nat → zG) × zD × (Nat → Int32) × zM × (Nat → Int64) × (Nat → UInt64) × Nat × Int32) ⊕ (Bool × zI × zC × (Nat → Int32) × (Nat → zG) × zD × (Nat → Int32) × zM × (Nat → Int64) × (Nat → UInt64) × Nat)}  (hx : fw_law_j2176 S xs I C Y Γ D O M ou od j a5 = some x) (hM : (Sum.elim (qw_law_28 S xs y) (fun X : Bool × zI × zC × (Nat → Int32) × (Nat → zG) × zD × (Nat → Int32) × zM × (Nat → Int64) × (Nat → UInt64) × Nat => y = (((.inl (some (.int (b2i X.1)))), (zH X.2.1 X.2.2.1 X.2.2.2.1 X.2.2.2.2.1 X.2.2.2.2.2.1 X.2.2.2.2.2.2.1 X.2.2.2.2.2.2.2.1 X.2.2.2.2.2.2.2.2.1 X.2.2.2.2.2.2.2.2.2.1 X.2.2.2.2.2.2.2.2.2.2)) : (Option Value ⊕ String) × px_H))) x) (u6 : Option Value) (u7 : Option Value) (hu7 : px_cz u7 = true) (u8 : Option Value) : Ev S xs 412 2176 [some (.retAddr 0), some (.ref 0), some (.ref 247), some (.ref 261), some (.ref 262), some (.int a5), u6, u7, u8, none] [] (zH I C Y Γ D O M ou od j) y := by
  have hk : pt_mt[412]? = some pt_r412 := rfl
  unfold fw_law_j2176 at hx
  refine ev_ls (L' := [some (.retAddr 0), some (.ref 0), some (.ref 247), some (.ref 261), some (.ref 262), some (.int a5), u6, u7, u8, none]) (st' := [.ref 0]) (pc' := 2177) hk (.aload_n 1) 1 rfl rfl rfl rfl ?_
  refine ev_ls (L' := [some (.retAddr 0), some (.ref 0), some (.ref 247), some (.ref 261), some (.ref 262), some (.int a5), u6, u7, u8, none]) (st' := [.retAddr 0, .ref 0]) (pc' := 2178) hk (.aload_n 0) 1 rfl rfl rfl rfl ?_
  refine ev_ls (L' := [some (.retAddr 0), some (.ref 0), some (.ref 247), some (.ref 261), some (.ref 262), some (.int a5), u6, u7, u8, none]) (st' := [.int a5, .retAddr 0, .ref 0]) (pc' := 2180) hk (.iload 5) 2 rfl rfl rfl rfl ?_
  refine ev_op (st' := [.int 1, .int a5, .retAddr 0, .ref 0]) (pc' := 2181) hk (.iconst 1) 1 rfl rfl rfl ?_
  refine ev_op (st' := [.int (a5 + 1), .retAddr 0, .ref 0]) (pc' := 2182) hk (.iadd) 1 rfl rfl rfl ?_
  obtain ⟨v824, hv824, hx⟩ := bnd_some hx
  refine ev_sal hv824 2183 hk rfl rfl ?_
  refine ev_ls (L' := [some (.retAddr 0), some (.ref 0), some (.ref 247), some (.ref 261), some (.ref 262), some (.int a5), u6, u7, u8, none]) (st' := [.retAddr 0, .int v824, .ref 0]) (pc' := 2184) hk (.aload_n 0) 1 rfl rfl rfl rfl ?_
  refine ev_ls (L' := [some (.retAddr 0), some (.ref 0), some (.ref 247), some (.ref 261), some (.ref 262), some (.int a5), u6, u7, u8, none]) (st' := [.int a5, .retAddr 0, .int v824, .ref 0]) (pc' := 2186) hk (.iload 5) 2 rfl rfl rfl rfl ?_
  refine ev_op (st' := [.int 2, .int a5, .retAddr 0, .int v824, .ref 0]) (pc' := 2187) hk (.iconst 2) 1 rfl rfl rfl ?_
  refine ev_op (st' := [.int (a5 + 2), .retAddr 0, .int v824, .ref 0]) (pc' := 2188) hk (.iadd) 1 rfl rfl rfl ?_
  obtain ⟨v825, hv825, hx⟩ := bnd_some hx
  refine ev_sal hv825 2189 hk rfl rfl ?_
  refine ev_ls (L' := [some (.retAddr 0), some (.ref 0), some (.ref 247), some (.ref 261), some (.ref 262), some (.int a5), u6, u7, u8, none]) (st' := [.ref 261, .int v825, .int v824, .ref 0]) (pc' := 2190) hk (.aload_n 3) 1 rfl rfl rfl rfl ?_
  obtain ⟨v829, Γ826, ou827, j828, hc830, hx⟩ := bnd4_some hx
  refine ev_cs 392 4 [.int v829] 2193 hk rfl rfl (by decide) rfl rfl rfl (rw_meridianAfter hc830) rfl rfl rfl rfl ?_
  refine ev_ls (L' := [some (.retAddr 0), some (.ref 0), some (.ref 247), some (.ref 261), some (.ref 262), some (.int a5), some (.int v829), u7, u8, none]) (st' := []) (pc' := 2195) hk (.istore 6) 2 rfl rfl rfl rfl ?_
  refine ev_ls (L' := [some (.retAddr 0), some (.ref 0), some (.ref 247), some (.ref 261), some (.ref 262), some (.int a5), some (.int v829), u7, u8, none]) (st' := [.ref 247]) (pc' := 2196) hk (.aload_n 2) 1 rfl rfl rfl rfl ?_
  refine ev_ls (L' := [some (.retAddr 0), some (.ref 0), some (.ref 247), some (.ref 261), some (.ref 262), some (.int a5), some (.int v829), u7, u8, none]) (st' := [.retAddr 0, .ref 247]) (pc' := 2197) hk (.aload_n 0) 1 rfl rfl rfl rfl ?_
  refine ev_ls (L' := [some (.retAddr 0), some (.ref 0), some (.ref 247), some (.ref 261), some (.ref 262), some (.int a5), some (.int v829), u7, u8, none]) (st' := [.int a5, .retAddr 0, .ref 247]) (pc' := 2199) hk (.iload 5) 2 rfl rfl rfl rfl ?_
  refine ev_op (st' := [.int 1, .int a5, .retAddr 0, .ref 247]) (pc' := 2200) hk (.iconst 1) 1 rfl rfl rfl ?_
  refine ev_op (st' := [.int (a5 + 1), .retAddr 0, .ref 247]) (pc' := 2201) hk (.iadd) 1 rfl rfl rfl ?_
  obtain ⟨v831, hv831, hx⟩ := bnd_some hx
  refine ev_sal hv831 2202 hk rfl rfl ?_
  refine ev_ls (L' := [some (.retAddr 0), some (.ref 0), some (.ref 247), some (.ref 261), some (.ref 262), some (.int a5), some (.int v829), u7, u8, none]) (st' := [.retAddr 0, .int v831, .ref 247]) (pc' := 2203) hk (.aload_n 0) 1 rfl rfl rfl rfl ?_
  refine ev_ls (L' := [some (.retAddr 0), some (.ref 0), some (.ref 247), some (.ref 261), some (.ref 262), some (.int a5), some (.int v829), u7, u8, none]) (st' := [.int a5, .retAddr 0, .int v831, .ref 247]) (pc' := 2205) hk (.iload 5) 2 rfl rfl rfl rfl ?_
  refine ev_op (st' := [.int 2, .int a5, .retAddr 0, .int v831, .ref 247]) (pc' := 2206) hk (.iconst 2) 1 rfl rfl rfl ?_
  refine ev_op (st' := [.int (a5 + 2), .retAddr 0, .int v831, .ref 247]) (pc' := 2207) hk (.iadd) 1 rfl rfl rfl ?_
  obtain ⟨v832, hv832, hx⟩ := bnd_some hx
  refine ev_sal hv832 2208 hk rfl rfl ?_
  obtain ⟨v834, M833, hc835, hx⟩ := bnd2_some hx
  refine ev_cv 134 2 [.int v834] 2211 hk rfl rfl rfl rfl lk_model rfl rfl rfl (rM_meridianAfter hc835) rfl rfl rfl rfl ?_
  refine ev_ls (L' := [some (.retAddr 0), some (.ref 0), some (.ref 247), some (.ref 261), some (.ref 262), some (.int a5), some (.int v829), some (.int v834), u8, none]) (st' := []) (pc' := 2213) hk (.istore 7) 2 rfl rfl rfl rfl ?_
  refine ev_ls (L' := [some (.retAddr 0), some (.ref 0), some (.ref 247), some (.ref 261), some (.ref 262), some (.int a5), some (.int v829), some (.int v834), u8, none]) (st' := [.ref 247]) (pc' := 2214) hk (.aload_n 2) 1 rfl rfl rfl rfl ?_
  refine ev_cv 183 0 [.int (fM_thrown M833)] 2217 hk rfl rfl rfl rfl lk_model rfl rfl rfl (rM_thrown rfl) rfl rfl rfl rfl ?_
  refine ev_ls (L' := [some (.retAddr 0), some (.ref 0), some (.ref 247), some (.ref 261), some (.ref 262), some (.int a5), some (.int v829), some (.int v834), u8, none]) (st' := [.int v829, .int (fM_thrown M833)]) (pc' := 2219) hk (.iload 6) 2 rfl rfl rfl rfl ?_
  refine ev_d2 2224 2222 hk rfl rfl rfl rfl (px_ceq hx (fun hc hx => ?_) (fun hc hx => ?_))
  · refine ev_ls (L' := [some (.retAddr 0), some (.ref 0), some (.ref 247), some (.ref 261), some (.ref 262), some (.int a5), some (.int v829), some (.int v834), u8, none]) (st' := [.int v829]) (pc' := 2226) hk (.iload 6) 2 rfl rfl rfl rfl ?_
    refine ev_d1 2241 2229 hk rfl rfl rfl rfl (px_cne hx (fun hc hx => ?_) (fun hc hx => ?_))
    · refine ev_jp (pc' := 3189) (st' := []) hk (.goto 948) 3 rfl rfl rfl rfl rfl ?_
      refine ev_ls (L' := [some (.retAddr 0), some (.ref 0), some (.ref 247), some (.ref 261), some (.ref 262), some (.int (a5 + 6)), some (.int v829), some (.int v834), u8, none]) (st' := []) (pc' := 3192) hk (.iinc 5 6) 3 rfl rfl rfl rfl ?_
      refine ev_jp (pc' := 28) (st' := []) hk (.goto (-3164)) 3 rfl rfl rfl rfl rfl ?_
      cases hx
      exact hM (some (.int v829)) (some (.int v834)) rfl u8
    · refine ev_ls (L' := [some (.retAddr 0), some (.ref 0), some (.ref 247), some (.ref 261), some (.ref 262), some (.int a5), some (.int v829), some (.int v834), u8, none]) (st' := [.ref 261]) (pc' := 2230) hk (.aload_n 3) 1 rfl rfl rfl rfl ?_
      refine ev_op (st' := [.int 0, .ref 261]) (pc' := 2231) hk (.iconst 0) 1 rfl rfl rfl ?_
      refine ev_lal (v := (ou827 0)) rfl 2232 hk rfl lk_ou rfl ?_
      refine ev_ls (L' := [some (.retAddr 0), some (.ref 0), some (.ref 247), some (.ref 261), some (.ref 262), some (.int a5), some (.int v829), some (.int v834), u8, none]) (st' := [.int v834, .long (ou827 0)]) (pc' := 2234) hk (.iload 7) 2 rfl rfl rfl rfl ?_
      refine ev_op (st' := [.long (Int32.toInt64 v834), .long (ou827 0)]) (pc' := 2235) hk (.i2l) 1 rfl rfl rfl ?_
      refine ev_op (st' := [.int (lg_cmp (ou827 0) (Int32.toInt64 v834))]) (pc' := 2236) hk (.lcmp) 1 rfl rfl rfl ?_
      refine ev_d1 2241 2239 hk rfl rfl rfl rfl (px_leq hx (fun hc hx => ?_) (fun hc hx => ?_))
      · refine ev_jp (pc' := 3189) (st' := []) hk (.goto 948) 3 rfl rfl rfl rfl rfl ?_
        refine ev_ls (L' := [some (.retAddr 0), some (.ref 0), some (.ref 247), some (.ref 261), some (.ref 262), some (.int (a5 + 6)), some (.int v829), some (.int v834), u8, none]) (st' := []) (pc' := 3192) hk (.iinc 5 6) 3 rfl rfl rfl rfl ?_
        refine ev_jp (pc' := 28) (st' := []) hk (.goto (-3164)) 3 rfl rfl rfl rfl rfl ?_
        cases hx
        exact hM (some (.int v829)) (some (.int v834)) rfl u8
      · refine ev_op (st' := [.int 0]) (pc' := 2240) hk (.iconst 0) 1 rfl rfl rfl ?_
        cases hx
        obtain rfl := hM
        exact ev_retZ false rfl hk rfl rfl
  · refine ev_op (st' := [.int 0]) (pc' := 2223) hk (.iconst 0) 1 rfl rfl rfl ?_
    cases hx
    obtain rfl := hM
    exact ev_retZ false rfl hk rfl rfl

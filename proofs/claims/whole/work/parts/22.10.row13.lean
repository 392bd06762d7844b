/-! THE ROWS of the methods: each function is what the pure machine does (13) -/
set_option maxRecDepth 4000 in
theorem rw_law_j2244 {S : Nat} {xs : Nat → Int32} {I : zI} {C : zC} {Y : Nat → Int32} {Γ : Nat → zG} {D : zD} {O : Nat → Int32} {M : zM} {ou : Nat → Int64} {od : Nat → UInt64} {j : Nat} {a5 : Int32} {y : (Option Value ⊕ String) × px_H} {x : (zI × zC × (Nat → Int32) × (Nat → zG) × zD × (Nat → Int32) × zM × (Nat → Int64) × (Nat → UInt64) × Nat × Int32) ⊕ (Bool × zI × zC × (Nat → Int32) × (Nat → zG) × zD × (Nat → Int32) × zM × (Nat → Int64) × (Nat → UInt64) × Nat)}  (hx : fw_law_j2244 S xs I C Y Γ D O M ou od j a5 = some x) (hM : (Sum.elim (qw_law_28 S xs y) (fun X : Bool × zI × zC × (Nat → Int32) × (Nat → zG) × zD × (Nat → Int32) × zM × (Nat → Int64) × (Nat → UInt64) × Nat => y = (((.inl (some (.int (b2i X.1)))), (zH X.2.1 X.2.2.1 X.2.2.2.1 X.2.2.2.2.1 X.2.2.2.2.2.1 X.2.2.2.2.2.2.1 X.2.2.2.2.2.2.2.1 X.2.2.2.2.2.2.2.2.1 X.2.2.2.2.2.2.2.2.2.1 X.2.2.2.2.2.2.2.2.2.2)) : (Option Value ⊕ String) × px_H))) x) (u6 : Option Value) (u7 : Option Value) (hu7 : px_cz u7 = true) (u8 : Option Value) : Ev S xs 412 2244 [some (.retAddr 0), some (.ref 0), some (.ref 247), some (.ref 261), some (.ref 262), some (.int a5), u6, u7, u8, none] [] (zH I C Y Γ D O M ou od j) y := by
  have hk : pt_mt[412]? = some pt_r412 := rfl
  unfold fw_law_j2244 at hx
  refine ev_ls (L' := [some (.retAddr 0), some (.ref 0), some (.ref 247), some (.ref 261), some (.ref 262), some (.int a5), u6, u7, u8, none]) (st' := [.ref 0]) (pc' := 2245) hk (.aload_n 1) 1 rfl rfl rfl rfl ?_
  obtain ⟨v836, hc837, hx⟩ := bnd_some hx
  refine ev_cv 365 0 [.int v836] 2248 hk rfl rfl rfl rfl lk_dh rfl rfl rfl (rX_violations hc837) rfl rfl rfl rfl ?_
  refine ev_ls (L' := [some (.retAddr 0), some (.ref 0), some (.ref 247), some (.ref 261), some (.ref 262), some (.int a5), u6, u7, u8, none]) (st' := [.ref 247, .int v836]) (pc' := 2249) hk (.aload_n 2) 1 rfl rfl rfl rfl ?_
  obtain ⟨v839, M838, hc840, hx⟩ := bnd2_some hx
  refine ev_cv 192 0 [.int v839, .int v836] 2252 hk rfl rfl rfl rfl lk_model rfl rfl rfl (rM_violations hc840) rfl rfl rfl rfl ?_
  refine ev_d2 3189 2255 hk rfl rfl rfl rfl (px_ceq hx (fun hc hx => ?_) (fun hc hx => ?_))
  · refine ev_ls (L' := [some (.retAddr 0), some (.ref 0), some (.ref 247), some (.ref 261), some (.ref 262), some (.int (a5 + 6)), u6, u7, u8, none]) (st' := []) (pc' := 3192) hk (.iinc 5 6) 3 rfl rfl rfl rfl ?_
    refine ev_jp (pc' := 28) (st' := []) hk (.goto (-3164)) 3 rfl rfl rfl rfl rfl ?_
    cases hx
    exact hM u6 u7 hu7 u8
  · refine ev_op (st' := [.int 0]) (pc' := 2256) hk (.iconst 0) 1 rfl rfl rfl ?_
    cases hx
    obtain rfl := hM
    exact ev_retZ false rfl hk rfl rfl
set_option maxRecDepth 4000 in
theorem rw_law_j2257 {S : Nat} {xs : Nat → Int32} {I : zI} {C : zC} {Y : Nat → Int32} {Γ : Nat → zG} {D : zD} {O : Nat → Int32} {M : zM} {ou : Nat → Int64} {od : Nat → UInt64} {j : Nat} {a5 : Int32} {y : (Option Value ⊕ String) × px_H} {x : (zI × zC × (Nat → Int32) × (Nat → zG) × zD × (Nat → Int32) × zM × (Nat → Int64) × (Nat → UInt64) × Nat × Int32) ⊕ (Bool × zI × zC × (Nat → Int32) × (Nat → zG) × zD × (Nat → Int32) × zM × (Nat → Int64) × (Nat → UInt64) × Nat)}  (hx : fw_law_j2257 S xs I C Y Γ D O M ou od j a5 = some x) (hM : (Sum.elim (qw_law_28 S xs y) (fun X : Bool × zI × zC × (Nat → Int32) × (Nat → zG) × zD × (Nat → Int32) × zM × (Nat → Int64) × (Nat → UInt64) × Nat => y = (((.inl (some (.int (b2i X.1)))), (zH X.2.1 X.2.2.1 X.2.2.2.1 X.2.2.2.2.1 X.2.2.2.2.2.1 X.2.2.2.2.2.2.1 X.2.2.2.2.2.2.2.1 X.2.2.2.2.2.2.2.2.1 X.2.2.2.2.2.2.2.2.2.1 X.2.2.2.2.2.2.2.2.2.2)) : (Option Value ⊕ String) × px_H))) x) (u6 : Option Value) (u7 : Option Value) (hu7 : px_cz u7 = true) (u8 : Option Value) : Ev S xs 412 2257 [some (.retAddr 0), some (.ref 0), some (.ref 247), some (.ref 261), some (.ref 262), some (.int a5), u6, u7, u8, none] [] (zH I C Y Γ D O M ou od j) y := by
  have hk : pt_mt[412]? = some pt_r412 := rfl
  unfold fw_law_j2257 at hx
  refine ev_ls (L' := [some (.retAddr 0), some (.ref 0), some (.ref 247), some (.ref 261), some (.ref 262), some (.int a5), u6, u7, u8, none]) (st' := [.ref 0]) (pc' := 2258) hk (.aload_n 1) 1 rfl rfl rfl rfl ?_
  obtain ⟨v841, hc842, hx⟩ := bnd_some hx
  refine ev_cv 334 0 [.double v841] 2261 hk rfl rfl rfl rfl lk_dh rfl rfl rfl (rX_meanStitches hc842) rfl rfl rfl rfl ?_
  refine ev_ls (L' := [some (.retAddr 0), some (.ref 0), some (.ref 247), some (.ref 261), some (.ref 262), some (.int a5), some (.double v841), none, u8, none]) (st' := []) (pc' := 2263) hk (.dstore 6) 2 rfl rfl rfl rfl ?_
  refine ev_ls (L' := [some (.retAddr 0), some (.ref 0), some (.ref 247), some (.ref 261), some (.ref 262), some (.int a5), some (.double v841), none, u8, none]) (st' := [.ref 247]) (pc' := 2264) hk (.aload_n 2) 1 rfl rfl rfl rfl ?_
  obtain ⟨v844, M843, hc845, hx⟩ := bnd2_some hx
  refine ev_cv 133 0 [.double v844] 2267 hk rfl rfl rfl rfl lk_model rfl rfl rfl (rM_meanStitches hc845) rfl rfl rfl rfl ?_
  refine ev_ls (L' := [some (.retAddr 0), some (.ref 0), some (.ref 247), some (.ref 261), some (.ref 262), some (.int a5), some (.double v841), none, some (.double v844), none]) (st' := []) (pc' := 2269) hk (.dstore 8) 2 rfl rfl rfl rfl ?_
  refine ev_ls (L' := [some (.retAddr 0), some (.ref 0), some (.ref 247), some (.ref 261), some (.ref 262), some (.int a5), some (.double v841), none, some (.double v844), none]) (st' := [.double v841]) (pc' := 2271) hk (.dload 6) 2 rfl rfl rfl rfl ?_
  refine ev_ls (L' := [some (.retAddr 0), some (.ref 0), some (.ref 247), some (.ref 261), some (.ref 262), some (.int a5), some (.double v841), none, some (.double v844), none]) (st' := [.double v844, .double v841]) (pc' := 2273) hk (.dload 8) 2 rfl rfl rfl rfl ?_
  refine ev_op (st' := [.int (Op.cmpValue (FP.dcmp v841 v844) .l)]) (pc' := 2274) hk (.dcmp .l) 1 rfl rfl rfl ?_
  refine ev_d1 2295 2277 hk rfl rfl rfl rfl (px_ceq hx (fun hc hx => ?_) (fun hc hx => ?_))
  · refine ev_jp (pc' := 3189) (st' := []) hk (.goto 894) 3 rfl rfl rfl rfl rfl ?_
    refine ev_ls (L' := [some (.retAddr 0), some (.ref 0), some (.ref 247), some (.ref 261), some (.ref 262), some (.int (a5 + 6)), some (.double v841), none, some (.double v844), none]) (st' := []) (pc' := 3192) hk (.iinc 5 6) 3 rfl rfl rfl rfl ?_
    refine ev_jp (pc' := 28) (st' := []) hk (.goto (-3164)) 3 rfl rfl rfl rfl rfl ?_
    cases hx
    exact hM (some (.double v841)) none rfl (some (.double v844))
  · refine ev_ls (L' := [some (.retAddr 0), some (.ref 0), some (.ref 247), some (.ref 261), some (.ref 262), some (.int a5), some (.double v841), none, some (.double v844), none]) (st' := [.double v841]) (pc' := 2279) hk (.dload 6) 2 rfl rfl rfl rfl ?_
    refine ev_ls (L' := [some (.retAddr 0), some (.ref 0), some (.ref 247), some (.ref 261), some (.ref 262), some (.int a5), some (.double v841), none, some (.double v844), none]) (st' := [.double v841, .double v841]) (pc' := 2281) hk (.dload 6) 2 rfl rfl rfl rfl ?_
    refine ev_op (st' := [.int (Op.cmpValue (FP.dcmp v841 v841) .l)]) (pc' := 2282) hk (.dcmp .l) 1 rfl rfl rfl ?_
    refine ev_d1 2293 2285 hk rfl rfl rfl rfl (px_ceq hx (fun hc hx => ?_) (fun hc hx => ?_))
    · refine ev_op (st' := [.int 0]) (pc' := 2294) hk (.iconst 0) 1 rfl rfl rfl ?_
      cases hx
      obtain rfl := hM
      exact ev_retZ false rfl hk rfl rfl
    · refine ev_ls (L' := [some (.retAddr 0), some (.ref 0), some (.ref 247), some (.ref 261), some (.ref 262), some (.int a5), some (.double v841), none, some (.double v844), none]) (st' := [.double v844]) (pc' := 2287) hk (.dload 8) 2 rfl rfl rfl rfl ?_
      refine ev_ls (L' := [some (.retAddr 0), some (.ref 0), some (.ref 247), some (.ref 261), some (.ref 262), some (.int a5), some (.double v841), none, some (.double v844), none]) (st' := [.double v844, .double v844]) (pc' := 2289) hk (.dload 8) 2 rfl rfl rfl rfl ?_
      refine ev_op (st' := [.int (Op.cmpValue (FP.dcmp v844 v844) .l)]) (pc' := 2290) hk (.dcmp .l) 1 rfl rfl rfl ?_
      refine ev_d1 2295 2293 hk rfl rfl rfl rfl (px_cne hx (fun hc hx => ?_) (fun hc hx => ?_))
      · refine ev_jp (pc' := 3189) (st' := []) hk (.goto 894) 3 rfl rfl rfl rfl rfl ?_
        refine ev_ls (L' := [some (.retAddr 0), some (.ref 0), some (.ref 247), some (.ref 261), some (.ref 262), some (.int (a5 + 6)), some (.double v841), none, some (.double v844), none]) (st' := []) (pc' := 3192) hk (.iinc 5 6) 3 rfl rfl rfl rfl ?_
        refine ev_jp (pc' := 28) (st' := []) hk (.goto (-3164)) 3 rfl rfl rfl rfl rfl ?_
        cases hx
        exact hM (some (.double v841)) none rfl (some (.double v844))
      · refine ev_op (st' := [.int 0]) (pc' := 2294) hk (.iconst 0) 1 rfl rfl rfl ?_
        cases hx
        obtain rfl := hM
        exact ev_retZ false rfl hk rfl rfl
set_option maxRecDepth 4000 in
theorem rw_law_j2298 {S : Nat} {xs : Nat → Int32} {I : zI} {C : zC} {Y : Nat → Int32} {Γ : Nat → zG} {D : zD} {O : Nat → Int32} {M : zM} {ou : Nat → Int64} {od : Nat → UInt64} {j : Nat} {a5 : Int32} {y : (Option Value ⊕ String) × px_H} {x : (zI × zC × (Nat → Int32) × (Nat → zG) × zD × (Nat → Int32) × zM × (Nat → Int64) × (Nat → UInt64) × Nat × Int32) ⊕ (Bool × zI × zC × (Nat → Int32) × (Nat → zG) × zD × (Nat → Int32) × zM × (Nat → Int64) × (Nat → UInt64) × Nat)}  (hx : fw_law_j2298 S xs I C Y Γ D O M ou od j a5 = some x) (hM : (Sum.elim (qw_law_28 S xs y) (fun X : Bool × zI × zC × (Nat → Int32) × (Nat → zG) × zD × (Nat → Int32) × zM × (Nat → Int64) × (Nat → UInt64) × Nat => y = (((.inl (some (.int (b2i X.1)))), (zH X.2.1 X.2.2.1 X.2.2.2.1 X.2.2.2.2.1 X.2.2.2.2.2.1 X.2.2.2.2.2.2.1 X.2.2.2.2.2.2.2.1 X.2.2.2.2.2.2.2.2.1 X.2.2.2.2.2.2.2.2.2.1 X.2.2.2.2.2.2.2.2.2.2)) : (Option Value ⊕ String) × px_H))) x) (u6 : Option Value) (u7 : Option Value) (hu7 : px_cz u7 = true) (u8 : Option Value) : Ev S xs 412 2298 [some (.retAddr 0), some (.ref 0), some (.ref 247), some (.ref 261), some (.ref 262), some (.int a5), u6, u7, u8, none] [] (zH I C Y Γ D O M ou od j) y := by
  have hk : pt_mt[412]? = some pt_r412 := rfl
  unfold fw_law_j2298 at hx
  refine ev_ls (L' := [some (.retAddr 0), some (.ref 0), some (.ref 247), some (.ref 261), some (.ref 262), some (.int a5), u6, u7, u8, none]) (st' := [.ref 0]) (pc' := 2299) hk (.aload_n 1) 1 rfl rfl rfl rfl ?_
  refine ev_ls (L' := [some (.retAddr 0), some (.ref 0), some (.ref 247), some (.ref 261), some (.ref 262), some (.int a5), u6, u7, u8, none]) (st' := [.retAddr 0, .ref 0]) (pc' := 2300) hk (.aload_n 0) 1 rfl rfl rfl rfl ?_
  refine ev_ls (L' := [some (.retAddr 0), some (.ref 0), some (.ref 247), some (.ref 261), some (.ref 262), some (.int a5), u6, u7, u8, none]) (st' := [.int a5, .retAddr 0, .ref 0]) (pc' := 2302) hk (.iload 5) 2 rfl rfl rfl rfl ?_
  refine ev_op (st' := [.int 1, .int a5, .retAddr 0, .ref 0]) (pc' := 2303) hk (.iconst 1) 1 rfl rfl rfl ?_
  refine ev_op (st' := [.int (a5 + 1), .retAddr 0, .ref 0]) (pc' := 2304) hk (.iadd) 1 rfl rfl rfl ?_
  obtain ⟨v846, hv846, hx⟩ := bnd_some hx
  refine ev_sal hv846 2305 hk rfl rfl ?_
  refine ev_ls (L' := [some (.retAddr 0), some (.ref 0), some (.ref 247), some (.ref 261), some (.ref 262), some (.int a5), u6, u7, u8, none]) (st' := [.ref 262, .int v846, .ref 0]) (pc' := 2307) hk (.aload 4) 2 rfl rfl rfl rfl ?_
  obtain ⟨v849, od847, j848, hc850, hx⟩ := bnd3_some hx
  refine ev_cs 390 3 [.int v849] 2310 hk rfl rfl (by decide) rfl rfl rfl (rw_labelShare hc850) rfl rfl rfl rfl ?_
  refine ev_ls (L' := [some (.retAddr 0), some (.ref 0), some (.ref 247), some (.ref 261), some (.ref 262), some (.int a5), some (.int v849), u7, u8, none]) (st' := []) (pc' := 2312) hk (.istore 6) 2 rfl rfl rfl rfl ?_
  refine ev_ls (L' := [some (.retAddr 0), some (.ref 0), some (.ref 247), some (.ref 261), some (.ref 262), some (.int a5), some (.int v849), u7, u8, none]) (st' := [.ref 247]) (pc' := 2313) hk (.aload_n 2) 1 rfl rfl rfl rfl ?_
  refine ev_ls (L' := [some (.retAddr 0), some (.ref 0), some (.ref 247), some (.ref 261), some (.ref 262), some (.int a5), some (.int v849), u7, u8, none]) (st' := [.retAddr 0, .ref 247]) (pc' := 2314) hk (.aload_n 0) 1 rfl rfl rfl rfl ?_
  refine ev_ls (L' := [some (.retAddr 0), some (.ref 0), some (.ref 247), some (.ref 261), some (.ref 262), some (.int a5), some (.int v849), u7, u8, none]) (st' := [.int a5, .retAddr 0, .ref 247]) (pc' := 2316) hk (.iload 5) 2 rfl rfl rfl rfl ?_
  refine ev_op (st' := [.int 1, .int a5, .retAddr 0, .ref 247]) (pc' := 2317) hk (.iconst 1) 1 rfl rfl rfl ?_
  refine ev_op (st' := [.int (a5 + 1), .retAddr 0, .ref 247]) (pc' := 2318) hk (.iadd) 1 rfl rfl rfl ?_
  obtain ⟨v851, hv851, hx⟩ := bnd_some hx
  refine ev_sal hv851 2319 hk rfl rfl ?_
  obtain ⟨v853, M852, hc854, hx⟩ := bnd2_some hx
  refine ev_cv 114 1 [.float v853] 2322 hk rfl rfl rfl rfl lk_model rfl rfl rfl (rM_labelShare hc854) rfl rfl rfl rfl ?_
  refine ev_ls (L' := [some (.retAddr 0), some (.ref 0), some (.ref 247), some (.ref 261), some (.ref 262), some (.int a5), some (.int v849), some (.float v853), u8, none]) (st' := []) (pc' := 2324) hk (.fstore 7) 2 rfl rfl rfl rfl ?_
  refine ev_ls (L' := [some (.retAddr 0), some (.ref 0), some (.ref 247), some (.ref 261), some (.ref 262), some (.int a5), some (.int v849), some (.float v853), u8, none]) (st' := [.ref 247]) (pc' := 2325) hk (.aload_n 2) 1 rfl rfl rfl rfl ?_
  refine ev_cv 183 0 [.int (fM_thrown M852)] 2328 hk rfl rfl rfl rfl lk_model rfl rfl rfl (rM_thrown rfl) rfl rfl rfl rfl ?_
  refine ev_ls (L' := [some (.retAddr 0), some (.ref 0), some (.ref 247), some (.ref 261), some (.ref 262), some (.int a5), some (.int v849), some (.float v853), u8, none]) (st' := [.int v849, .int (fM_thrown M852)]) (pc' := 2330) hk (.iload 6) 2 rfl rfl rfl rfl ?_
  refine ev_d2 2335 2333 hk rfl rfl rfl rfl (px_ceq hx (fun hc hx => ?_) (fun hc hx => ?_))
  · refine ev_ls (L' := [some (.retAddr 0), some (.ref 0), some (.ref 247), some (.ref 261), some (.ref 262), some (.int a5), some (.int v849), some (.float v853), u8, none]) (st' := [.int v849]) (pc' := 2337) hk (.iload 6) 2 rfl rfl rfl rfl ?_
    refine ev_d1 2373 2340 hk rfl rfl rfl rfl (px_cne hx (fun hc hx => ?_) (fun hc hx => ?_))
    · refine ev_jp (pc' := 3189) (st' := []) hk (.goto 816) 3 rfl rfl rfl rfl rfl ?_
      refine ev_ls (L' := [some (.retAddr 0), some (.ref 0), some (.ref 247), some (.ref 261), some (.ref 262), some (.int (a5 + 6)), some (.int v849), some (.float v853), u8, none]) (st' := []) (pc' := 3192) hk (.iinc 5 6) 3 rfl rfl rfl rfl ?_
      refine ev_jp (pc' := 28) (st' := []) hk (.goto (-3164)) 3 rfl rfl rfl rfl rfl ?_
      cases hx
      exact hM (some (.int v849)) (some (.float v853)) rfl u8
    · refine ev_ls (L' := [some (.retAddr 0), some (.ref 0), some (.ref 247), some (.ref 261), some (.ref 262), some (.int a5), some (.int v849), some (.float v853), u8, none]) (st' := [.ref 262]) (pc' := 2342) hk (.aload 4) 2 rfl rfl rfl rfl ?_
      refine ev_op (st' := [.int 0, .ref 262]) (pc' := 2343) hk (.iconst 0) 1 rfl rfl rfl ?_
      refine ev_dal (v := (od847 0)) rfl 2344 hk rfl lk_od rfl ?_
      refine ev_ls (L' := [some (.retAddr 0), some (.ref 0), some (.ref 247), some (.ref 261), some (.ref 262), some (.int a5), some (.int v849), some (.float v853), u8, none]) (st' := [.float v853, .double (od847 0)]) (pc' := 2346) hk (.fload 7) 2 rfl rfl rfl rfl ?_
      obtain ⟨v855, hv855, hx⟩ := bnd_some hx
      refine ev_fd 2347 hk rfl hv855 rfl ?_
      refine ev_op (st' := [.int (Op.cmpValue (FP.dcmp (od847 0) v855) .l)]) (pc' := 2348) hk (.dcmp .l) 1 rfl rfl rfl ?_
      refine ev_d1 2373 2351 hk rfl rfl rfl rfl (px_ceq hx (fun hc hx => ?_) (fun hc hx => ?_))
      · refine ev_jp (pc' := 3189) (st' := []) hk (.goto 816) 3 rfl rfl rfl rfl rfl ?_
        refine ev_ls (L' := [some (.retAddr 0), some (.ref 0), some (.ref 247), some (.ref 261), some (.ref 262), some (.int (a5 + 6)), some (.int v849), some (.float v853), u8, none]) (st' := []) (pc' := 3192) hk (.iinc 5 6) 3 rfl rfl rfl rfl ?_
        refine ev_jp (pc' := 28) (st' := []) hk (.goto (-3164)) 3 rfl rfl rfl rfl rfl ?_
        cases hx
        exact hM (some (.int v849)) (some (.float v853)) rfl u8
      · refine ev_ls (L' := [some (.retAddr 0), some (.ref 0), some (.ref 247), some (.ref 261), some (.ref 262), some (.int a5), some (.int v849), some (.float v853), u8, none]) (st' := [.ref 262]) (pc' := 2353) hk (.aload 4) 2 rfl rfl rfl rfl ?_
        refine ev_op (st' := [.int 0, .ref 262]) (pc' := 2354) hk (.iconst 0) 1 rfl rfl rfl ?_
        refine ev_dal (v := (od847 0)) rfl 2355 hk rfl lk_od rfl ?_
        refine ev_ls (L' := [some (.retAddr 0), some (.ref 0), some (.ref 247), some (.ref 261), some (.ref 262), some (.int a5), some (.int v849), some (.float v853), u8, none]) (st' := [.ref 262, .double (od847 0)]) (pc' := 2357) hk (.aload 4) 2 rfl rfl rfl rfl ?_
        refine ev_op (st' := [.int 0, .ref 262, .double (od847 0)]) (pc' := 2358) hk (.iconst 0) 1 rfl rfl rfl ?_
        refine ev_dal (v := (od847 0)) rfl 2359 hk rfl lk_od rfl ?_
        refine ev_op (st' := [.int (Op.cmpValue (FP.dcmp (od847 0) (od847 0)) .l)]) (pc' := 2360) hk (.dcmp .l) 1 rfl rfl rfl ?_
        refine ev_d1 2371 2363 hk rfl rfl rfl rfl (px_ceq hx (fun hc hx => ?_) (fun hc hx => ?_))
        · refine ev_op (st' := [.int 0]) (pc' := 2372) hk (.iconst 0) 1 rfl rfl rfl ?_
          cases hx
          obtain rfl := hM
          exact ev_retZ false rfl hk rfl rfl
        · refine ev_ls (L' := [some (.retAddr 0), some (.ref 0), some (.ref 247), some (.ref 261), some (.ref 262), some (.int a5), some (.int v849), some (.float v853), u8, none]) (st' := [.float v853]) (pc' := 2365) hk (.fload 7) 2 rfl rfl rfl rfl ?_
          refine ev_ls (L' := [some (.retAddr 0), some (.ref 0), some (.ref 247), some (.ref 261), some (.ref 262), some (.int a5), some (.int v849), some (.float v853), u8, none]) (st' := [.float v853, .float v853]) (pc' := 2367) hk (.fload 7) 2 rfl rfl rfl rfl ?_
          refine ev_op (st' := [.int (Op.cmpValue (FP.fcmp v853 v853) .l)]) (pc' := 2368) hk (.fcmp .l) 1 rfl rfl rfl ?_
          refine ev_d1 2373 2371 hk rfl rfl rfl rfl (px_cne hx (fun hc hx => ?_) (fun hc hx => ?_))
          · refine ev_jp (pc' := 3189) (st' := []) hk (.goto 816) 3 rfl rfl rfl rfl rfl ?_
            refine ev_ls (L' := [some (.retAddr 0), some (.ref 0), some (.ref 247), some (.ref 261), some (.ref 262), some (.int (a5 + 6)), some (.int v849), some (.float v853), u8, none]) (st' := []) (pc' := 3192) hk (.iinc 5 6) 3 rfl rfl rfl rfl ?_
            refine ev_jp (pc' := 28) (st' := []) hk (.goto (-3164)) 3 rfl rfl rfl rfl rfl ?_
            cases hx
            exact hM (some (.int v849)) (some (.float v853)) rfl u8
          · refine ev_op (st' := [.int 0]) (pc' := 2372) hk (.iconst 0) 1 rfl rfl rfl ?_
            cases hx
            obtain rfl := hM
            exact ev_retZ false rfl hk rfl rfl
  · refine ev_op (st' := [.int 0]) (pc' := 2334) hk (.iconst 0) 1 rfl rfl rfl ?_
    cases hx
    obtain rfl := hM
    exact ev_retZ false rfl hk rfl rfl
set_option maxRecDepth 4000 in
theorem rw_law_j2376 {S : Nat} {xs : Nat → Int32} {I : zI} {C : zC} {Y : Nat → Int32} {Γ : Nat → zG} {D : zD} {O : Nat → Int32} {M : zM} {ou : Nat → Int64} {od : Nat → UInt64} {j : Nat} {a5 : Int32} {y : (Option Value ⊕ String) × px_H} {x : (zI × zC × (Nat → Int32) × (Nat → zG) × zD × (Nat → Int32) × zM × (Nat → Int64) × (Nat → UInt64) × Nat × Int32) ⊕ (Bool × zI × zC × (Nat → Int32) × (Nat → zG) × zD × (Nat → Int32) × zM × (Nat → Int64) × (Nat → UInt64) × Nat)}  (hx : fw_law_j2376 S xs I C Y Γ D O M ou od j a5 = some x) (hM : (Sum.elim (qw_law_28 S xs y) (fun X : Bool × zI × zC × (Nat → Int32) × (Nat → zG) × zD × (Nat → Int32) × zM × (Nat → Int64) × (Nat → UInt64) × Nat => y = (((.inl (some (.int (b2i X.1)))), (zH X.2.1 X.2.2.1 X.2.2.2.1 X.2.2.2.2.1 X.2.2.2.2.2.1 X.2.2.2.2.2.2.1 X.2.2.2.2.2.2.2.1 X.2.2.2.2.2.2.2.2.1 X.2.2.2.2.2.2.2.2.2.1 X.2.2.2.2.2.2.2.2.2.2)) : (Option Value ⊕ String) × px_H))) x) (u6 : Option Value) (u7 : Option Value) (hu7 : px_cz u7 = true) (u8 : Option Value) : Ev S xs 412 2376 [some (.retAddr 0), some (.ref 0), some (.ref 247), some (.ref 261), some (.ref 262), some (.int a5), u6, u7, u8, none] [] (zH I C Y Γ D O M ou od j) y := by
  have hk : pt_mt[412]? = some pt_r412 := rfl
  unfold fw_law_j2376 at hx
  refine ev_ls (L' := [some (.retAddr 0), some (.ref 0), some (.ref 247), some (.ref 261), some (.ref 262), some (.int a5), u6, u7, u8, none]) (st' := [.ref 0]) (pc' := 2377) hk (.aload_n 1) 1 rfl rfl rfl rfl ?_
  refine ev_ls (L' := [some (.retAddr 0), some (.ref 0), some (.ref 247), some (.ref 261), some (.ref 262), some (.int a5), u6, u7, u8, none]) (st' := [.retAddr 0, .ref 0]) (pc' := 2378) hk (.aload_n 0) 1 rfl rfl rfl rfl ?_
  refine ev_ls (L' := [some (.retAddr 0), some (.ref 0), some (.ref 247), some (.ref 261), some (.ref 262), some (.int a5), u6, u7, u8, none]) (st' := [.int a5, .retAddr 0, .ref 0]) (pc' := 2380) hk (.iload 5) 2 rfl rfl rfl rfl ?_
  refine ev_op (st' := [.int 1, .int a5, .retAddr 0, .ref 0]) (pc' := 2381) hk (.iconst 1) 1 rfl rfl rfl ?_
  refine ev_op (st' := [.int (a5 + 1), .retAddr 0, .ref 0]) (pc' := 2382) hk (.iadd) 1 rfl rfl rfl ?_
  obtain ⟨v856, hv856, hx⟩ := bnd_some hx
  refine ev_sal hv856 2383 hk rfl rfl ?_
  refine ev_ls (L' := [some (.retAddr 0), some (.ref 0), some (.ref 247), some (.ref 261), some (.ref 262), some (.int a5), u6, u7, u8, none]) (st' := [.retAddr 0, .int v856, .ref 0]) (pc' := 2384) hk (.aload_n 0) 1 rfl rfl rfl rfl ?_
  refine ev_ls (L' := [some (.retAddr 0), some (.ref 0), some (.ref 247), some (.ref 261), some (.ref 262), some (.int a5), u6, u7, u8, none]) (st' := [.int a5, .retAddr 0, .int v856, .ref 0]) (pc' := 2386) hk (.iload 5) 2 rfl rfl rfl rfl ?_
  refine ev_op (st' := [.int 2, .int a5, .retAddr 0, .int v856, .ref 0]) (pc' := 2387) hk (.iconst 2) 1 rfl rfl rfl ?_
  refine ev_op (st' := [.int (a5 + 2), .retAddr 0, .int v856, .ref 0]) (pc' := 2388) hk (.iadd) 1 rfl rfl rfl ?_
  obtain ⟨v857, hv857, hx⟩ := bnd_some hx
  refine ev_sal hv857 2389 hk rfl rfl ?_
  refine ev_ls (L' := [some (.retAddr 0), some (.ref 0), some (.ref 247), some (.ref 261), some (.ref 262), some (.int a5), u6, u7, u8, none]) (st' := [.ref 261, .int v857, .int v856, .ref 0]) (pc' := 2390) hk (.aload_n 3) 1 rfl rfl rfl rfl ?_
  obtain ⟨v863, I858, Y859, Γ860, ou861, j862, hc864, hx⟩ := bnd6_some hx
  refine ev_cs 369 4 [.int v863] 2393 hk rfl rfl (by decide) rfl rfl rfl (rw_addTown hc864) rfl rfl rfl rfl ?_
  refine ev_ls (L' := [some (.retAddr 0), some (.ref 0), some (.ref 247), some (.ref 261), some (.ref 262), some (.int a5), some (.int v863), u7, u8, none]) (st' := []) (pc' := 2395) hk (.istore 6) 2 rfl rfl rfl rfl ?_
  refine ev_ls (L' := [some (.retAddr 0), some (.ref 0), some (.ref 247), some (.ref 261), some (.ref 262), some (.int a5), some (.int v863), u7, u8, none]) (st' := [.ref 247]) (pc' := 2396) hk (.aload_n 2) 1 rfl rfl rfl rfl ?_
  refine ev_ls (L' := [some (.retAddr 0), some (.ref 0), some (.ref 247), some (.ref 261), some (.ref 262), some (.int a5), some (.int v863), u7, u8, none]) (st' := [.retAddr 0, .ref 247]) (pc' := 2397) hk (.aload_n 0) 1 rfl rfl rfl rfl ?_
  refine ev_ls (L' := [some (.retAddr 0), some (.ref 0), some (.ref 247), some (.ref 261), some (.ref 262), some (.int a5), some (.int v863), u7, u8, none]) (st' := [.int a5, .retAddr 0, .ref 247]) (pc' := 2399) hk (.iload 5) 2 rfl rfl rfl rfl ?_
  refine ev_op (st' := [.int 1, .int a5, .retAddr 0, .ref 247]) (pc' := 2400) hk (.iconst 1) 1 rfl rfl rfl ?_
  refine ev_op (st' := [.int (a5 + 1), .retAddr 0, .ref 247]) (pc' := 2401) hk (.iadd) 1 rfl rfl rfl ?_
  obtain ⟨v865, hv865, hx⟩ := bnd_some hx
  refine ev_sal hv865 2402 hk rfl rfl ?_
  refine ev_ls (L' := [some (.retAddr 0), some (.ref 0), some (.ref 247), some (.ref 261), some (.ref 262), some (.int a5), some (.int v863), u7, u8, none]) (st' := [.retAddr 0, .int v865, .ref 247]) (pc' := 2403) hk (.aload_n 0) 1 rfl rfl rfl rfl ?_
  refine ev_ls (L' := [some (.retAddr 0), some (.ref 0), some (.ref 247), some (.ref 261), some (.ref 262), some (.int a5), some (.int v863), u7, u8, none]) (st' := [.int a5, .retAddr 0, .int v865, .ref 247]) (pc' := 2405) hk (.iload 5) 2 rfl rfl rfl rfl ?_
  refine ev_op (st' := [.int 2, .int a5, .retAddr 0, .int v865, .ref 247]) (pc' := 2406) hk (.iconst 2) 1 rfl rfl rfl ?_
  refine ev_op (st' := [.int (a5 + 2), .retAddr 0, .int v865, .ref 247]) (pc' := 2407) hk (.iadd) 1 rfl rfl rfl ?_
  obtain ⟨v866, hv866, hx⟩ := bnd_some hx
  refine ev_sal hv866 2408 hk rfl rfl ?_
  obtain ⟨v868, M867, hc869, hx⟩ := bnd2_some hx
  refine ev_cv 17 2 [.int v868] 2411 hk rfl rfl rfl rfl lk_model rfl rfl rfl (rM_addTown hc869) rfl rfl rfl rfl ?_
  refine ev_ls (L' := [some (.retAddr 0), some (.ref 0), some (.ref 247), some (.ref 261), some (.ref 262), some (.int a5), some (.int v863), some (.int v868), u8, none]) (st' := []) (pc' := 2413) hk (.istore 7) 2 rfl rfl rfl rfl ?_
  refine ev_ls (L' := [some (.retAddr 0), some (.ref 0), some (.ref 247), some (.ref 261), some (.ref 262), some (.int a5), some (.int v863), some (.int v868), u8, none]) (st' := [.ref 247]) (pc' := 2414) hk (.aload_n 2) 1 rfl rfl rfl rfl ?_
  refine ev_cv 183 0 [.int (fM_thrown M867)] 2417 hk rfl rfl rfl rfl lk_model rfl rfl rfl (rM_thrown rfl) rfl rfl rfl rfl ?_
  refine ev_ls (L' := [some (.retAddr 0), some (.ref 0), some (.ref 247), some (.ref 261), some (.ref 262), some (.int a5), some (.int v863), some (.int v868), u8, none]) (st' := [.int v863, .int (fM_thrown M867)]) (pc' := 2419) hk (.iload 6) 2 rfl rfl rfl rfl ?_
  refine ev_d2 2424 2422 hk rfl rfl rfl rfl (px_ceq hx (fun hc hx => ?_) (fun hc hx => ?_))
  · refine ev_ls (L' := [some (.retAddr 0), some (.ref 0), some (.ref 247), some (.ref 261), some (.ref 262), some (.int a5), some (.int v863), some (.int v868), u8, none]) (st' := [.int v863]) (pc' := 2426) hk (.iload 6) 2 rfl rfl rfl rfl ?_
    refine ev_d1 2441 2429 hk rfl rfl rfl rfl (px_cne hx (fun hc hx => ?_) (fun hc hx => ?_))
    · refine ev_jp (pc' := 3189) (st' := []) hk (.goto 748) 3 rfl rfl rfl rfl rfl ?_
      refine ev_ls (L' := [some (.retAddr 0), some (.ref 0), some (.ref 247), some (.ref 261), some (.ref 262), some (.int (a5 + 6)), some (.int v863), some (.int v868), u8, none]) (st' := []) (pc' := 3192) hk (.iinc 5 6) 3 rfl rfl rfl rfl ?_
      refine ev_jp (pc' := 28) (st' := []) hk (.goto (-3164)) 3 rfl rfl rfl rfl rfl ?_
      cases hx
      exact hM (some (.int v863)) (some (.int v868)) rfl u8
    · refine ev_ls (L' := [some (.retAddr 0), some (.ref 0), some (.ref 247), some (.ref 261), some (.ref 262), some (.int a5), some (.int v863), some (.int v868), u8, none]) (st' := [.ref 261]) (pc' := 2430) hk (.aload_n 3) 1 rfl rfl rfl rfl ?_
      refine ev_op (st' := [.int 0, .ref 261]) (pc' := 2431) hk (.iconst 0) 1 rfl rfl rfl ?_
      refine ev_lal (v := (ou861 0)) rfl 2432 hk rfl lk_ou rfl ?_
      refine ev_ls (L' := [some (.retAddr 0), some (.ref 0), some (.ref 247), some (.ref 261), some (.ref 262), some (.int a5), some (.int v863), some (.int v868), u8, none]) (st' := [.int v868, .long (ou861 0)]) (pc' := 2434) hk (.iload 7) 2 rfl rfl rfl rfl ?_
      refine ev_op (st' := [.long (Int32.toInt64 v868), .long (ou861 0)]) (pc' := 2435) hk (.i2l) 1 rfl rfl rfl ?_
      refine ev_op (st' := [.int (lg_cmp (ou861 0) (Int32.toInt64 v868))]) (pc' := 2436) hk (.lcmp) 1 rfl rfl rfl ?_
      refine ev_d1 2441 2439 hk rfl rfl rfl rfl (px_leq hx (fun hc hx => ?_) (fun hc hx => ?_))
      · refine ev_jp (pc' := 3189) (st' := []) hk (.goto 748) 3 rfl rfl rfl rfl rfl ?_
        refine ev_ls (L' := [some (.retAddr 0), some (.ref 0), some (.ref 247), some (.ref 261), some (.ref 262), some (.int (a5 + 6)), some (.int v863), some (.int v868), u8, none]) (st' := []) (pc' := 3192) hk (.iinc 5 6) 3 rfl rfl rfl rfl ?_
        refine ev_jp (pc' := 28) (st' := []) hk (.goto (-3164)) 3 rfl rfl rfl rfl rfl ?_
        cases hx
        exact hM (some (.int v863)) (some (.int v868)) rfl u8
      · refine ev_op (st' := [.int 0]) (pc' := 2440) hk (.iconst 0) 1 rfl rfl rfl ?_
        cases hx
        obtain rfl := hM
        exact ev_retZ false rfl hk rfl rfl
  · refine ev_op (st' := [.int 0]) (pc' := 2423) hk (.iconst 0) 1 rfl rfl rfl ?_
    cases hx
    obtain rfl := hM
    exact ev_retZ false rfl hk rfl rfl
set_option maxRecDepth 4000 in
theorem rw_law_j2444 {S : Nat} {xs : Nat → Int32} {I : zI} {C : zC} {Y : Nat → Int32} {Γ : Nat → zG} {D : zD} {O : Nat → Int32} {M : zM} {ou : Nat → Int64} {od : Nat → UInt64} {j : Nat} {a5 : Int32} {y : (Option Value ⊕ String) × px_H} {x : (zI × zC × (Nat → Int32) × (Nat → zG) × zD × (Nat → Int32) × zM × (Nat → Int64) × (Nat → UInt64) × Nat × Int32) ⊕ (Bool × zI × zC × (Nat → Int32) × (Nat → zG) × zD × (Nat → Int32) × zM × (Nat → Int64) × (Nat → UInt64) × Nat)}  (hx : fw_law_j2444 S xs I C Y Γ D O M ou od j a5 = some x) (hM : (Sum.elim (qw_law_28 S xs y) (fun X : Bool × zI × zC × (Nat → Int32) × (Nat → zG) × zD × (Nat → Int32) × zM × (Nat → Int64) × (Nat → UInt64) × Nat => y = (((.inl (some (.int (b2i X.1)))), (zH X.2.1 X.2.2.1 X.2.2.2.1 X.2.2.2.2.1 X.2.2.2.2.2.1 X.2.2.2.2.2.2.1 X.2.2.2.2.2.2.2.1 X.2.2.2.2.2.2.2.2.1 X.2.2.2.2.2.2.2.2.2.1 X.2.2.2.2.2.2.2.2.2.2)) : (Option Value ⊕ String) × px_H))) x) (u6 : Option Value) (u7 : Option Value) (hu7 : px_cz u7 = true) (u8 : Option Value) : Ev S xs 412 2444 [some (.retAddr 0), some (.ref 0), some (.ref 247), some (.ref 261), some (.ref 262), some (.int a5), u6, u7, u8, none] [] (zH I C Y Γ D O M ou od j) y := by
  have hk : pt_mt[412]? = some pt_r412 := rfl
  unfold fw_law_j2444 at hx
  refine ev_ls (L' := [some (.retAddr 0), some (.ref 0), some (.ref 247), some (.ref 261), some (.ref 262), some (.int a5), u6, u7, u8, none]) (st' := [.ref 0]) (pc' := 2445) hk (.aload_n 1) 1 rfl rfl rfl rfl ?_
  refine ev_ls (L' := [some (.retAddr 0), some (.ref 0), some (.ref 247), some (.ref 261), some (.ref 262), some (.int a5), u6, u7, u8, none]) (st' := [.retAddr 0, .ref 0]) (pc' := 2446) hk (.aload_n 0) 1 rfl rfl rfl rfl ?_
  refine ev_ls (L' := [some (.retAddr 0), some (.ref 0), some (.ref 247), some (.ref 261), some (.ref 262), some (.int a5), u6, u7, u8, none]) (st' := [.int a5, .retAddr 0, .ref 0]) (pc' := 2448) hk (.iload 5) 2 rfl rfl rfl rfl ?_
  refine ev_op (st' := [.int 1, .int a5, .retAddr 0, .ref 0]) (pc' := 2449) hk (.iconst 1) 1 rfl rfl rfl ?_
  refine ev_op (st' := [.int (a5 + 1), .retAddr 0, .ref 0]) (pc' := 2450) hk (.iadd) 1 rfl rfl rfl ?_
  obtain ⟨v870, hv870, hx⟩ := bnd_some hx
  refine ev_sal hv870 2451 hk rfl rfl ?_
  refine ev_ls (L' := [some (.retAddr 0), some (.ref 0), some (.ref 247), some (.ref 261), some (.ref 262), some (.int a5), u6, u7, u8, none]) (st' := [.retAddr 0, .int v870, .ref 0]) (pc' := 2452) hk (.aload_n 0) 1 rfl rfl rfl rfl ?_
  refine ev_ls (L' := [some (.retAddr 0), some (.ref 0), some (.ref 247), some (.ref 261), some (.ref 262), some (.int a5), u6, u7, u8, none]) (st' := [.int a5, .retAddr 0, .int v870, .ref 0]) (pc' := 2454) hk (.iload 5) 2 rfl rfl rfl rfl ?_
  refine ev_op (st' := [.int 2, .int a5, .retAddr 0, .int v870, .ref 0]) (pc' := 2455) hk (.iconst 2) 1 rfl rfl rfl ?_
  refine ev_op (st' := [.int (a5 + 2), .retAddr 0, .int v870, .ref 0]) (pc' := 2456) hk (.iadd) 1 rfl rfl rfl ?_
  obtain ⟨v871, hv871, hx⟩ := bnd_some hx
  refine ev_sal hv871 2457 hk rfl rfl ?_
  refine ev_ls (L' := [some (.retAddr 0), some (.ref 0), some (.ref 247), some (.ref 261), some (.ref 262), some (.int a5), u6, u7, u8, none]) (st' := [.ref 261, .int v871, .int v870, .ref 0]) (pc' := 2458) hk (.aload_n 3) 1 rfl rfl rfl rfl ?_
  obtain ⟨v877, I872, Y873, Γ874, ou875, j876, hc878, hx⟩ := bnd6_some hx
  refine ev_cs 370 4 [.int v877] 2461 hk rfl rfl (by decide) rfl rfl rfl (rw_addTraveller hc878) rfl rfl rfl rfl ?_
  refine ev_ls (L' := [some (.retAddr 0), some (.ref 0), some (.ref 247), some (.ref 261), some (.ref 262), some (.int a5), some (.int v877), u7, u8, none]) (st' := []) (pc' := 2463) hk (.istore 6) 2 rfl rfl rfl rfl ?_
  refine ev_ls (L' := [some (.retAddr 0), some (.ref 0), some (.ref 247), some (.ref 261), some (.ref 262), some (.int a5), some (.int v877), u7, u8, none]) (st' := [.ref 247]) (pc' := 2464) hk (.aload_n 2) 1 rfl rfl rfl rfl ?_
  refine ev_ls (L' := [some (.retAddr 0), some (.ref 0), some (.ref 247), some (.ref 261), some (.ref 262), some (.int a5), some (.int v877), u7, u8, none]) (st' := [.retAddr 0, .ref 247]) (pc' := 2465) hk (.aload_n 0) 1 rfl rfl rfl rfl ?_
  refine ev_ls (L' := [some (.retAddr 0), some (.ref 0), some (.ref 247), some (.ref 261), some (.ref 262), some (.int a5), some (.int v877), u7, u8, none]) (st' := [.int a5, .retAddr 0, .ref 247]) (pc' := 2467) hk (.iload 5) 2 rfl rfl rfl rfl ?_
  refine ev_op (st' := [.int 1, .int a5, .retAddr 0, .ref 247]) (pc' := 2468) hk (.iconst 1) 1 rfl rfl rfl ?_
  refine ev_op (st' := [.int (a5 + 1), .retAddr 0, .ref 247]) (pc' := 2469) hk (.iadd) 1 rfl rfl rfl ?_
  obtain ⟨v879, hv879, hx⟩ := bnd_some hx
  refine ev_sal hv879 2470 hk rfl rfl ?_
  refine ev_ls (L' := [some (.retAddr 0), some (.ref 0), some (.ref 247), some (.ref 261), some (.ref 262), some (.int a5), some (.int v877), u7, u8, none]) (st' := [.retAddr 0, .int v879, .ref 247]) (pc' := 2471) hk (.aload_n 0) 1 rfl rfl rfl rfl ?_
  refine ev_ls (L' := [some (.retAddr 0), some (.ref 0), some (.ref 247), some (.ref 261), some (.ref 262), some (.int a5), some (.int v877), u7, u8, none]) (st' := [.int a5, .retAddr 0, .int v879, .ref 247]) (pc' := 2473) hk (.iload 5) 2 rfl rfl rfl rfl ?_
  refine ev_op (st' := [.int 2, .int a5, .retAddr 0, .int v879, .ref 247]) (pc' := 2474) hk (.iconst 2) 1 rfl rfl rfl ?_
  refine ev_op (st' := [.int (a5 + 2), .retAddr 0, .int v879, .ref 247]) (pc' := 2475) hk (.iadd) 1 rfl rfl rfl ?_
  obtain ⟨v880, hv880, hx⟩ := bnd_some hx
  refine ev_sal hv880 2476 hk rfl rfl ?_
  obtain ⟨v882, M881, hc883, hx⟩ := bnd2_some hx
  refine ev_cv 18 2 [.int v882] 2479 hk rfl rfl rfl rfl lk_model rfl rfl rfl (rM_addTraveller hc883) rfl rfl rfl rfl ?_
  refine ev_ls (L' := [some (.retAddr 0), some (.ref 0), some (.ref 247), some (.ref 261), some (.ref 262), some (.int a5), some (.int v877), some (.int v882), u8, none]) (st' := []) (pc' := 2481) hk (.istore 7) 2 rfl rfl rfl rfl ?_
  refine ev_ls (L' := [some (.retAddr 0), some (.ref 0), some (.ref 247), some (.ref 261), some (.ref 262), some (.int a5), some (.int v877), some (.int v882), u8, none]) (st' := [.ref 247]) (pc' := 2482) hk (.aload_n 2) 1 rfl rfl rfl rfl ?_
  refine ev_cv 183 0 [.int (fM_thrown M881)] 2485 hk rfl rfl rfl rfl lk_model rfl rfl rfl (rM_thrown rfl) rfl rfl rfl rfl ?_
  refine ev_ls (L' := [some (.retAddr 0), some (.ref 0), some (.ref 247), some (.ref 261), some (.ref 262), some (.int a5), some (.int v877), some (.int v882), u8, none]) (st' := [.int v877, .int (fM_thrown M881)]) (pc' := 2487) hk (.iload 6) 2 rfl rfl rfl rfl ?_
  refine ev_d2 2492 2490 hk rfl rfl rfl rfl (px_ceq hx (fun hc hx => ?_) (fun hc hx => ?_))
  · refine ev_ls (L' := [some (.retAddr 0), some (.ref 0), some (.ref 247), some (.ref 261), some (.ref 262), some (.int a5), some (.int v877), some (.int v882), u8, none]) (st' := [.int v877]) (pc' := 2494) hk (.iload 6) 2 rfl rfl rfl rfl ?_
    refine ev_d1 2509 2497 hk rfl rfl rfl rfl (px_cne hx (fun hc hx => ?_) (fun hc hx => ?_))
    · refine ev_jp (pc' := 3189) (st' := []) hk (.goto 680) 3 rfl rfl rfl rfl rfl ?_
      refine ev_ls (L' := [some (.retAddr 0), some (.ref 0), some (.ref 247), some (.ref 261), some (.ref 262), some (.int (a5 + 6)), some (.int v877), some (.int v882), u8, none]) (st' := []) (pc' := 3192) hk (.iinc 5 6) 3 rfl rfl rfl rfl ?_
      refine ev_jp (pc' := 28) (st' := []) hk (.goto (-3164)) 3 rfl rfl rfl rfl rfl ?_
      cases hx
      exact hM (some (.int v877)) (some (.int v882)) rfl u8
    · refine ev_ls (L' := [some (.retAddr 0), some (.ref 0), some (.ref 247), some (.ref 261), some (.ref 262), some (.int a5), some (.int v877), some (.int v882), u8, none]) (st' := [.ref 261]) (pc' := 2498) hk (.aload_n 3) 1 rfl rfl rfl rfl ?_
      refine ev_op (st' := [.int 0, .ref 261]) (pc' := 2499) hk (.iconst 0) 1 rfl rfl rfl ?_
      refine ev_lal (v := (ou875 0)) rfl 2500 hk rfl lk_ou rfl ?_
      refine ev_ls (L' := [some (.retAddr 0), some (.ref 0), some (.ref 247), some (.ref 261), some (.ref 262), some (.int a5), some (.int v877), some (.int v882), u8, none]) (st' := [.int v882, .long (ou875 0)]) (pc' := 2502) hk (.iload 7) 2 rfl rfl rfl rfl ?_
      refine ev_op (st' := [.long (Int32.toInt64 v882), .long (ou875 0)]) (pc' := 2503) hk (.i2l) 1 rfl rfl rfl ?_
      refine ev_op (st' := [.int (lg_cmp (ou875 0) (Int32.toInt64 v882))]) (pc' := 2504) hk (.lcmp) 1 rfl rfl rfl ?_
      refine ev_d1 2509 2507 hk rfl rfl rfl rfl (px_leq hx (fun hc hx => ?_) (fun hc hx => ?_))
      · refine ev_jp (pc' := 3189) (st' := []) hk (.goto 680) 3 rfl rfl rfl rfl rfl ?_
        refine ev_ls (L' := [some (.retAddr 0), some (.ref 0), some (.ref 247), some (.ref 261), some (.ref 262), some (.int (a5 + 6)), some (.int v877), some (.int v882), u8, none]) (st' := []) (pc' := 3192) hk (.iinc 5 6) 3 rfl rfl rfl rfl ?_
        refine ev_jp (pc' := 28) (st' := []) hk (.goto (-3164)) 3 rfl rfl rfl rfl rfl ?_
        cases hx
        exact hM (some (.int v877)) (some (.int v882)) rfl u8
      · refine ev_op (st' := [.int 0]) (pc' := 2508) hk (.iconst 0) 1 rfl rfl rfl ?_
        cases hx
        obtain rfl := hM
        exact ev_retZ false rfl hk rfl rfl
  · refine ev_op (st' := [.int 0]) (pc' := 2491) hk (.iconst 0) 1 rfl rfl rfl ?_
    cases hx
    obtain rfl := hM
    exact ev_retZ false rfl hk rfl rfl
set_option maxRecDepth 4000 in
theorem rw_law_j2512 {S : Nat} {xs : Nat → Int32} {I : zI} {C : zC} {Y : Nat → Int32} {Γ : Nat → zG} {D : zD} {O : Nat → Int32} {M : zM} {ou : Nat → Int64} {od : Nat → UInt64} {j : Nat} {a5 : Int32} {y : (Option Value ⊕ String) × px_H} {x : (zI × zC × (Nat → Int32) × (Nat → zG) × zD × (Nat → Int32) × zM × (Nat → Int64) × (Nat → UInt64) × Nat × Int32) ⊕ (Bool × zI × zC × (Nat → Int32) × (Nat → zG) × zD × (Nat → Int32) × zM × (Nat → Int64) × (Nat → UInt64) × Nat)}  (hx : fw_law_j2512 S xs I C Y Γ D O M ou od j a5 = some x) (hM : (Sum.elim (qw_law_28 S xs y) (fun X : Bool × zI × zC × (Nat → Int32) × (Nat → zG) × zD × (Nat → Int32) × zM × (Nat → Int64) × (Nat → UInt64) × Nat => y = (((.inl (some (.int (b2i X.1)))), (zH X.2.1 X.2.2.1 X.2.2.2.1 X.2.2.2.2.1 X.2.2.2.2.2.1 X.2.2.2.2.2.2.1 X.2.2.2.2.2.2.2.1 X.2.2.2.2.2.2.2.2.1 X.2.2.2.2.2.2.2.2.2.1 X.2.2.2.2.2.2.2.2.2.2)) : (Option Value ⊕ String) × px_H))) x) (u6 : Option Value) (u7 : Option Value) (hu7 : px_cz u7 = true) (u8 : Option Value) : Ev S xs 412 2512 [some (.retAddr 0), some (.ref 0), some (.ref 247), some (.ref 261), some (.ref 262), some (.int a5), u6, u7, u8, none] [] (zH I C Y Γ D O M ou od j) y := by
  have hk : pt_mt[412]? = some pt_r412 := rfl
  unfold fw_law_j2512 at hx
  refine ev_ls (L' := [some (.retAddr 0), some (.ref 0), some (.ref 247), some (.ref 261), some (.ref 262), some (.int a5), u6, u7, u8, none]) (st' := [.ref 0]) (pc' := 2513) hk (.aload_n 1) 1 rfl rfl rfl rfl ?_
  refine ev_ls (L' := [some (.retAddr 0), some (.ref 0), some (.ref 247), some (.ref 261), some (.ref 262), some (.int a5), u6, u7, u8, none]) (st' := [.retAddr 0, .ref 0]) (pc' := 2514) hk (.aload_n 0) 1 rfl rfl rfl rfl ?_
  refine ev_ls (L' := [some (.retAddr 0), some (.ref 0), some (.ref 247), some (.ref 261), some (.ref 262), some (.int a5), u6, u7, u8, none]) (st' := [.int a5, .retAddr 0, .ref 0]) (pc' := 2516) hk (.iload 5) 2 rfl rfl rfl rfl ?_
  refine ev_op (st' := [.int 1, .int a5, .retAddr 0, .ref 0]) (pc' := 2517) hk (.iconst 1) 1 rfl rfl rfl ?_
  refine ev_op (st' := [.int (a5 + 1), .retAddr 0, .ref 0]) (pc' := 2518) hk (.iadd) 1 rfl rfl rfl ?_
  obtain ⟨v884, hv884, hx⟩ := bnd_some hx
  refine ev_sal hv884 2519 hk rfl rfl ?_
  refine ev_ls (L' := [some (.retAddr 0), some (.ref 0), some (.ref 247), some (.ref 261), some (.ref 262), some (.int a5), u6, u7, u8, none]) (st' := [.retAddr 0, .int v884, .ref 0]) (pc' := 2520) hk (.aload_n 0) 1 rfl rfl rfl rfl ?_
  refine ev_ls (L' := [some (.retAddr 0), some (.ref 0), some (.ref 247), some (.ref 261), some (.ref 262), some (.int a5), u6, u7, u8, none]) (st' := [.int a5, .retAddr 0, .int v884, .ref 0]) (pc' := 2522) hk (.iload 5) 2 rfl rfl rfl rfl ?_
  refine ev_op (st' := [.int 2, .int a5, .retAddr 0, .int v884, .ref 0]) (pc' := 2523) hk (.iconst 2) 1 rfl rfl rfl ?_
  refine ev_op (st' := [.int (a5 + 2), .retAddr 0, .int v884, .ref 0]) (pc' := 2524) hk (.iadd) 1 rfl rfl rfl ?_
  obtain ⟨v885, hv885, hx⟩ := bnd_some hx
  refine ev_sal hv885 2525 hk rfl rfl ?_
  refine ev_ls (L' := [some (.retAddr 0), some (.ref 0), some (.ref 247), some (.ref 261), some (.ref 262), some (.int a5), u6, u7, u8, none]) (st' := [.ref 261, .int v885, .int v884, .ref 0]) (pc' := 2526) hk (.aload_n 3) 1 rfl rfl rfl rfl ?_
  obtain ⟨v891, I886, Y887, Γ888, ou889, j890, hc892, hx⟩ := bnd6_some hx
  refine ev_cs 368 4 [.int v891] 2529 hk rfl rfl (by decide) rfl rfl rfl (rw_addLabel hc892) rfl rfl rfl rfl ?_
  refine ev_ls (L' := [some (.retAddr 0), some (.ref 0), some (.ref 247), some (.ref 261), some (.ref 262), some (.int a5), some (.int v891), u7, u8, none]) (st' := []) (pc' := 2531) hk (.istore 6) 2 rfl rfl rfl rfl ?_
  refine ev_ls (L' := [some (.retAddr 0), some (.ref 0), some (.ref 247), some (.ref 261), some (.ref 262), some (.int a5), some (.int v891), u7, u8, none]) (st' := [.ref 247]) (pc' := 2532) hk (.aload_n 2) 1 rfl rfl rfl rfl ?_
  refine ev_ls (L' := [some (.retAddr 0), some (.ref 0), some (.ref 247), some (.ref 261), some (.ref 262), some (.int a5), some (.int v891), u7, u8, none]) (st' := [.retAddr 0, .ref 247]) (pc' := 2533) hk (.aload_n 0) 1 rfl rfl rfl rfl ?_
  refine ev_ls (L' := [some (.retAddr 0), some (.ref 0), some (.ref 247), some (.ref 261), some (.ref 262), some (.int a5), some (.int v891), u7, u8, none]) (st' := [.int a5, .retAddr 0, .ref 247]) (pc' := 2535) hk (.iload 5) 2 rfl rfl rfl rfl ?_
  refine ev_op (st' := [.int 1, .int a5, .retAddr 0, .ref 247]) (pc' := 2536) hk (.iconst 1) 1 rfl rfl rfl ?_
  refine ev_op (st' := [.int (a5 + 1), .retAddr 0, .ref 247]) (pc' := 2537) hk (.iadd) 1 rfl rfl rfl ?_
  obtain ⟨v893, hv893, hx⟩ := bnd_some hx
  refine ev_sal hv893 2538 hk rfl rfl ?_
  refine ev_ls (L' := [some (.retAddr 0), some (.ref 0), some (.ref 247), some (.ref 261), some (.ref 262), some (.int a5), some (.int v891), u7, u8, none]) (st' := [.retAddr 0, .int v893, .ref 247]) (pc' := 2539) hk (.aload_n 0) 1 rfl rfl rfl rfl ?_
  refine ev_ls (L' := [some (.retAddr 0), some (.ref 0), some (.ref 247), some (.ref 261), some (.ref 262), some (.int a5), some (.int v891), u7, u8, none]) (st' := [.int a5, .retAddr 0, .int v893, .ref 247]) (pc' := 2541) hk (.iload 5) 2 rfl rfl rfl rfl ?_
  refine ev_op (st' := [.int 2, .int a5, .retAddr 0, .int v893, .ref 247]) (pc' := 2542) hk (.iconst 2) 1 rfl rfl rfl ?_
  refine ev_op (st' := [.int (a5 + 2), .retAddr 0, .int v893, .ref 247]) (pc' := 2543) hk (.iadd) 1 rfl rfl rfl ?_
  obtain ⟨v894, hv894, hx⟩ := bnd_some hx
  refine ev_sal hv894 2544 hk rfl rfl ?_
  obtain ⟨v896, M895, hc897, hx⟩ := bnd2_some hx
  refine ev_cv 16 2 [.int v896] 2547 hk rfl rfl rfl rfl lk_model rfl rfl rfl (rM_addLabel hc897) rfl rfl rfl rfl ?_
  refine ev_ls (L' := [some (.retAddr 0), some (.ref 0), some (.ref 247), some (.ref 261), some (.ref 262), some (.int a5), some (.int v891), some (.int v896), u8, none]) (st' := []) (pc' := 2549) hk (.istore 7) 2 rfl rfl rfl rfl ?_
  refine ev_ls (L' := [some (.retAddr 0), some (.ref 0), some (.ref 247), some (.ref 261), some (.ref 262), some (.int a5), some (.int v891), some (.int v896), u8, none]) (st' := [.ref 247]) (pc' := 2550) hk (.aload_n 2) 1 rfl rfl rfl rfl ?_
  refine ev_cv 183 0 [.int (fM_thrown M895)] 2553 hk rfl rfl rfl rfl lk_model rfl rfl rfl (rM_thrown rfl) rfl rfl rfl rfl ?_
  refine ev_ls (L' := [some (.retAddr 0), some (.ref 0), some (.ref 247), some (.ref 261), some (.ref 262), some (.int a5), some (.int v891), some (.int v896), u8, none]) (st' := [.int v891, .int (fM_thrown M895)]) (pc' := 2555) hk (.iload 6) 2 rfl rfl rfl rfl ?_
  refine ev_d2 2560 2558 hk rfl rfl rfl rfl (px_ceq hx (fun hc hx => ?_) (fun hc hx => ?_))
  · refine ev_ls (L' := [some (.retAddr 0), some (.ref 0), some (.ref 247), some (.ref 261), some (.ref 262), some (.int a5), some (.int v891), some (.int v896), u8, none]) (st' := [.int v891]) (pc' := 2562) hk (.iload 6) 2 rfl rfl rfl rfl ?_
    refine ev_d1 2577 2565 hk rfl rfl rfl rfl (px_cne hx (fun hc hx => ?_) (fun hc hx => ?_))
    · refine ev_jp (pc' := 3189) (st' := []) hk (.goto 612) 3 rfl rfl rfl rfl rfl ?_
      refine ev_ls (L' := [some (.retAddr 0), some (.ref 0), some (.ref 247), some (.ref 261), some (.ref 262), some (.int (a5 + 6)), some (.int v891), some (.int v896), u8, none]) (st' := []) (pc' := 3192) hk (.iinc 5 6) 3 rfl rfl rfl rfl ?_
      refine ev_jp (pc' := 28) (st' := []) hk (.goto (-3164)) 3 rfl rfl rfl rfl rfl ?_
      cases hx
      exact hM (some (.int v891)) (some (.int v896)) rfl u8
    · refine ev_ls (L' := [some (.retAddr 0), some (.ref 0), some (.ref 247), some (.ref 261), some (.ref 262), some (.int a5), some (.int v891), some (.int v896), u8, none]) (st' := [.ref 261]) (pc' := 2566) hk (.aload_n 3) 1 rfl rfl rfl rfl ?_
      refine ev_op (st' := [.int 0, .ref 261]) (pc' := 2567) hk (.iconst 0) 1 rfl rfl rfl ?_
      refine ev_lal (v := (ou889 0)) rfl 2568 hk rfl lk_ou rfl ?_
      refine ev_ls (L' := [some (.retAddr 0), some (.ref 0), some (.ref 247), some (.ref 261), some (.ref 262), some (.int a5), some (.int v891), some (.int v896), u8, none]) (st' := [.int v896, .long (ou889 0)]) (pc' := 2570) hk (.iload 7) 2 rfl rfl rfl rfl ?_
      refine ev_op (st' := [.long (Int32.toInt64 v896), .long (ou889 0)]) (pc' := 2571) hk (.i2l) 1 rfl rfl rfl ?_
      refine ev_op (st' := [.int (lg_cmp (ou889 0) (Int32.toInt64 v896))]) (pc' := 2572) hk (.lcmp) 1 rfl rfl rfl ?_
      refine ev_d1 2577 2575 hk rfl rfl rfl rfl (px_leq hx (fun hc hx => ?_) (fun hc hx => ?_))
      · refine ev_jp (pc' := 3189) (st' := []) hk (.goto 612) 3 rfl rfl rfl rfl rfl ?_
        refine ev_ls (L' := [some (.retAddr 0), some (.ref 0), some (.ref 247), some (.ref 261), some (.ref 262), some (.int (a5 + 6)), some (.int v891), some (.int v896), u8, none]) (st' := []) (pc' := 3192) hk (.iinc 5 6) 3 rfl rfl rfl rfl ?_
        refine ev_jp (pc' := 28) (st' := []) hk (.goto (-3164)) 3 rfl rfl rfl rfl rfl ?_
        cases hx
        exact hM (some (.int v891)) (some (.int v896)) rfl u8
      · refine ev_op (st' := [.int 0]) (pc' := 2576) hk (.iconst 0) 1 rfl rfl rfl ?_
        cases hx
        obtain rfl := hM
        exact ev_retZ false rfl hk rfl rfl
  · refine ev_op (st' := [.int 0]) (pc' := 2559) hk (.iconst 0) 1 rfl rfl rfl ?_
    cases hx
    obtain rfl := hM
    exact ev_retZ false rfl hk rfl rfl
set_option maxRecDepth 4000 in
theorem rw_law_j2580 {S : Nat} {xs : Nat → Int32} {I : zI} {C : zC} {Y : Nat → Int32} {Γ : Nat → zG} {D : zD} {O : Nat → Int32} {M : zM} {ou : Nat → Int64} {od : Nat → UInt64} {j : Nat} {a5 : Int32} {y : (Option Value ⊕ String) × px_H} {x : (zI × zC × (Nat → Int32) × (Nat → zG) × zD × (Nat → Int32) × zM × (Nat → Int64) × (Nat → UInt64) × Nat × Int32) ⊕ (Bool × zI × zC × (Nat → Int32) × (Nat → zG) × zD × (Nat → Int32) × zM × (Nat → Int64) × (Nat → UInt64) × Nat)}  (hx : fw_law_j2580 S xs I C Y Γ D O M ou od j a5 = some x) (hM : (Sum.elim (qw_law_28 S xs y) (fun X : Bool × zI × zC × (Nat → Int32) × (Nat → zG) × zD × (Nat → Int32) × zM × (Nat → Int64) × (Nat → UInt64) × Nat => y = (((.inl (some (.int (b2i X.1)))), (zH X.2.1 X.2.2.1 X.2.2.2.1 X.2.2.2.2.1 X.2.2.2.2.2.1 X.2.2.2.2.2.2.1 X.2.2.2.2.2.2.2.1 X.2.2.2.2.2.2.2.2.1 X.2.2.2.2.2.2.2.2.2.1 X.2.2.2.2.2.2.2.2.2.2)) : (Option Value ⊕ String) × px_H))) x) (u6 : Option Value) (u7 : Option Value) (hu7 : px_cz u7 = true) (u8 : Option Value) : Ev S xs 412 2580 [some (.retAddr 0), some (.ref 0), some (.ref 247), some (.ref 261), some (.ref 262), some (.int a5), u6, u7, u8, none] [] (zH I C Y Γ D O M ou od j) y := by
  have hk : pt_mt[412]? = some pt_r412 := rfl
  unfold fw_law_j2580 at hx
  refine ev_ls (L' := [some (.retAddr 0), some (.ref 0), some (.ref 247), some (.ref 261), some (.ref 262), some (.int a5), u6, u7, u8, none]) (st' := [.ref 0]) (pc' := 2581) hk (.aload_n 1) 1 rfl rfl rfl rfl ?_
  refine ev_ls (L' := [some (.retAddr 0), some (.ref 0), some (.ref 247), some (.ref 261), some (.ref 262), some (.int a5), u6, u7, u8, none]) (st' := [.retAddr 0, .ref 0]) (pc' := 2582) hk (.aload_n 0) 1 rfl rfl rfl rfl ?_
  refine ev_ls (L' := [some (.retAddr 0), some (.ref 0), some (.ref 247), some (.ref 261), some (.ref 262), some (.int a5), u6, u7, u8, none]) (st' := [.int a5, .retAddr 0, .ref 0]) (pc' := 2584) hk (.iload 5) 2 rfl rfl rfl rfl ?_
  refine ev_op (st' := [.int 1, .int a5, .retAddr 0, .ref 0]) (pc' := 2585) hk (.iconst 1) 1 rfl rfl rfl ?_
  refine ev_op (st' := [.int (a5 + 1), .retAddr 0, .ref 0]) (pc' := 2586) hk (.iadd) 1 rfl rfl rfl ?_
  obtain ⟨v898, hv898, hx⟩ := bnd_some hx
  refine ev_sal hv898 2587 hk rfl rfl ?_
  refine ev_ls (L' := [some (.retAddr 0), some (.ref 0), some (.ref 247), some (.ref 261), some (.ref 262), some (.int a5), u6, u7, u8, none]) (st' := [.retAddr 0, .int v898, .ref 0]) (pc' := 2588) hk (.aload_n 0) 1 rfl rfl rfl rfl ?_
  refine ev_ls (L' := [some (.retAddr 0), some (.ref 0), some (.ref 247), some (.ref 261), some (.ref 262), some (.int a5), u6, u7, u8, none]) (st' := [.int a5, .retAddr 0, .int v898, .ref 0]) (pc' := 2590) hk (.iload 5) 2 rfl rfl rfl rfl ?_
  refine ev_op (st' := [.int 2, .int a5, .retAddr 0, .int v898, .ref 0]) (pc' := 2591) hk (.iconst 2) 1 rfl rfl rfl ?_
  refine ev_op (st' := [.int (a5 + 2), .retAddr 0, .int v898, .ref 0]) (pc' := 2592) hk (.iadd) 1 rfl rfl rfl ?_
  obtain ⟨v899, hv899, hx⟩ := bnd_some hx
  refine ev_sal hv899 2593 hk rfl rfl ?_
  refine ev_ls (L' := [some (.retAddr 0), some (.ref 0), some (.ref 247), some (.ref 261), some (.ref 262), some (.int a5), u6, u7, u8, none]) (st' := [.ref 261, .int v899, .int v898, .ref 0]) (pc' := 2594) hk (.aload_n 3) 1 rfl rfl rfl rfl ?_
  obtain ⟨v904, Y900, Γ901, ou902, j903, hc905, hx⟩ := bnd5_some hx
  refine ev_cs 394 4 [.int v904] 2597 hk rfl rfl (by decide) rfl rfl rfl (rw_moveHem hc905) rfl rfl rfl rfl ?_
  refine ev_ls (L' := [some (.retAddr 0), some (.ref 0), some (.ref 247), some (.ref 261), some (.ref 262), some (.int a5), some (.int v904), u7, u8, none]) (st' := []) (pc' := 2599) hk (.istore 6) 2 rfl rfl rfl rfl ?_
  refine ev_ls (L' := [some (.retAddr 0), some (.ref 0), some (.ref 247), some (.ref 261), some (.ref 262), some (.int a5), some (.int v904), u7, u8, none]) (st' := [.ref 247]) (pc' := 2600) hk (.aload_n 2) 1 rfl rfl rfl rfl ?_
  refine ev_ls (L' := [some (.retAddr 0), some (.ref 0), some (.ref 247), some (.ref 261), some (.ref 262), some (.int a5), some (.int v904), u7, u8, none]) (st' := [.retAddr 0, .ref 247]) (pc' := 2601) hk (.aload_n 0) 1 rfl rfl rfl rfl ?_
  refine ev_ls (L' := [some (.retAddr 0), some (.ref 0), some (.ref 247), some (.ref 261), some (.ref 262), some (.int a5), some (.int v904), u7, u8, none]) (st' := [.int a5, .retAddr 0, .ref 247]) (pc' := 2603) hk (.iload 5) 2 rfl rfl rfl rfl ?_
  refine ev_op (st' := [.int 1, .int a5, .retAddr 0, .ref 247]) (pc' := 2604) hk (.iconst 1) 1 rfl rfl rfl ?_
  refine ev_op (st' := [.int (a5 + 1), .retAddr 0, .ref 247]) (pc' := 2605) hk (.iadd) 1 rfl rfl rfl ?_
  obtain ⟨v906, hv906, hx⟩ := bnd_some hx
  refine ev_sal hv906 2606 hk rfl rfl ?_
  refine ev_ls (L' := [some (.retAddr 0), some (.ref 0), some (.ref 247), some (.ref 261), some (.ref 262), some (.int a5), some (.int v904), u7, u8, none]) (st' := [.retAddr 0, .int v906, .ref 247]) (pc' := 2607) hk (.aload_n 0) 1 rfl rfl rfl rfl ?_
  refine ev_ls (L' := [some (.retAddr 0), some (.ref 0), some (.ref 247), some (.ref 261), some (.ref 262), some (.int a5), some (.int v904), u7, u8, none]) (st' := [.int a5, .retAddr 0, .int v906, .ref 247]) (pc' := 2609) hk (.iload 5) 2 rfl rfl rfl rfl ?_
  refine ev_op (st' := [.int 2, .int a5, .retAddr 0, .int v906, .ref 247]) (pc' := 2610) hk (.iconst 2) 1 rfl rfl rfl ?_
  refine ev_op (st' := [.int (a5 + 2), .retAddr 0, .int v906, .ref 247]) (pc' := 2611) hk (.iadd) 1 rfl rfl rfl ?_
  obtain ⟨v907, hv907, hx⟩ := bnd_some hx
  refine ev_sal hv907 2612 hk rfl rfl ?_
  obtain ⟨v909, M908, hc910, hx⟩ := bnd2_some hx
  refine ev_cv 137 2 [.int v909] 2615 hk rfl rfl rfl rfl lk_model rfl rfl rfl (rM_moveHem hc910) rfl rfl rfl rfl ?_
  refine ev_ls (L' := [some (.retAddr 0), some (.ref 0), some (.ref 247), some (.ref 261), some (.ref 262), some (.int a5), some (.int v904), some (.int v909), u8, none]) (st' := []) (pc' := 2617) hk (.istore 7) 2 rfl rfl rfl rfl ?_
  refine ev_ls (L' := [some (.retAddr 0), some (.ref 0), some (.ref 247), some (.ref 261), some (.ref 262), some (.int a5), some (.int v904), some (.int v909), u8, none]) (st' := [.ref 247]) (pc' := 2618) hk (.aload_n 2) 1 rfl rfl rfl rfl ?_
  refine ev_cv 183 0 [.int (fM_thrown M908)] 2621 hk rfl rfl rfl rfl lk_model rfl rfl rfl (rM_thrown rfl) rfl rfl rfl rfl ?_
  refine ev_ls (L' := [some (.retAddr 0), some (.ref 0), some (.ref 247), some (.ref 261), some (.ref 262), some (.int a5), some (.int v904), some (.int v909), u8, none]) (st' := [.int v904, .int (fM_thrown M908)]) (pc' := 2623) hk (.iload 6) 2 rfl rfl rfl rfl ?_
  refine ev_d2 2628 2626 hk rfl rfl rfl rfl (px_ceq hx (fun hc hx => ?_) (fun hc hx => ?_))
  · refine ev_ls (L' := [some (.retAddr 0), some (.ref 0), some (.ref 247), some (.ref 261), some (.ref 262), some (.int a5), some (.int v904), some (.int v909), u8, none]) (st' := [.int v904]) (pc' := 2630) hk (.iload 6) 2 rfl rfl rfl rfl ?_
    refine ev_d1 2645 2633 hk rfl rfl rfl rfl (px_cne hx (fun hc hx => ?_) (fun hc hx => ?_))
    · refine ev_jp (pc' := 3189) (st' := []) hk (.goto 544) 3 rfl rfl rfl rfl rfl ?_
      refine ev_ls (L' := [some (.retAddr 0), some (.ref 0), some (.ref 247), some (.ref 261), some (.ref 262), some (.int (a5 + 6)), some (.int v904), some (.int v909), u8, none]) (st' := []) (pc' := 3192) hk (.iinc 5 6) 3 rfl rfl rfl rfl ?_
      refine ev_jp (pc' := 28) (st' := []) hk (.goto (-3164)) 3 rfl rfl rfl rfl rfl ?_
      cases hx
      exact hM (some (.int v904)) (some (.int v909)) rfl u8
    · refine ev_ls (L' := [some (.retAddr 0), some (.ref 0), some (.ref 247), some (.ref 261), some (.ref 262), some (.int a5), some (.int v904), some (.int v909), u8, none]) (st' := [.ref 261]) (pc' := 2634) hk (.aload_n 3) 1 rfl rfl rfl rfl ?_
      refine ev_op (st' := [.int 0, .ref 261]) (pc' := 2635) hk (.iconst 0) 1 rfl rfl rfl ?_
      refine ev_lal (v := (ou902 0)) rfl 2636 hk rfl lk_ou rfl ?_
      refine ev_ls (L' := [some (.retAddr 0), some (.ref 0), some (.ref 247), some (.ref 261), some (.ref 262), some (.int a5), some (.int v904), some (.int v909), u8, none]) (st' := [.int v909, .long (ou902 0)]) (pc' := 2638) hk (.iload 7) 2 rfl rfl rfl rfl ?_
      refine ev_op (st' := [.long (Int32.toInt64 v909), .long (ou902 0)]) (pc' := 2639) hk (.i2l) 1 rfl rfl rfl ?_
      refine ev_op (st' := [.int (lg_cmp (ou902 0) (Int32.toInt64 v909))]) (pc' := 2640) hk (.lcmp) 1 rfl rfl rfl ?_
      refine ev_d1 2645 2643 hk rfl rfl rfl rfl (px_leq hx (fun hc hx => ?_) (fun hc hx => ?_))
      · refine ev_jp (pc' := 3189) (st' := []) hk (.goto 544) 3 rfl rfl rfl rfl rfl ?_
        refine ev_ls (L' := [some (.retAddr 0), some (.ref 0), some (.ref 247), some (.ref 261), some (.ref 262), some (.int (a5 + 6)), some (.int v904), some (.int v909), u8, none]) (st' := []) (pc' := 3192) hk (.iinc 5 6) 3 rfl rfl rfl rfl ?_
        refine ev_jp (pc' := 28) (st' := []) hk (.goto (-3164)) 3 rfl rfl rfl rfl rfl ?_
        cases hx
        exact hM (some (.int v904)) (some (.int v909)) rfl u8
      · refine ev_op (st' := [.int 0]) (pc' := 2644) hk (.iconst 0) 1 rfl rfl rfl ?_
        cases hx
        obtain rfl := hM
        exact ev_retZ false rfl hk rfl rfl
  · refine ev_op (st' := [.int 0]) (pc' := 2627) hk (.iconst 0) 1 rfl rfl rfl ?_
    cases hx
    obtain rfl := hM
    exact ev_retZ false rfl hk rfl rfl
set_option maxRecDepth 4000 in
theorem rw_law_j2648 {S : Nat} {xs : Nat → Int32} {I : zI} {C : zC} {Y : Nat → Int32} {Γ : Nat → zG} {D : zD} {O : Nat → Int32} {M : zM} {ou : Nat → Int64} {od : Nat → UInt64} {j : Nat} {a5 : Int32} {y : (Option Value ⊕ String) × px_H} {x : (zI × zC × (Nat → Int32) × (Nat → zG) × zD × (Nat → Int32) × zM × (Nat → Int64) × (Nat → UInt64) × Nat × Int32) ⊕ (Bool × zI × zC × (Nat → Int32) × (Nat → zG) × zD × (Nat → Int32) × zM × (Nat → Int64) × (Nat → UInt64) × Nat)}  (hx : fw_law_j2648 S xs I C Y Γ D O M ou od j a5 = some x) (hM : (Sum.elim (qw_law_28 S xs y) (fun X : Bool × zI × zC × (Nat → Int32) × (Nat → zG) × zD × (Nat → Int32) × zM × (Nat → Int64) × (Nat → UInt64) × Nat => y = (((.inl (some (.int (b2i X.1)))), (zH X.2.1 X.2.2.1 X.2.2.2.1 X.2.2.2.2.1 X.2.2.2.2.2.1 X.2.2.2.2.2.2.1 X.2.2.2.2.2.2.2.1 X.2.2.2.2.2.2.2.2.1 X.2.2.2.2.2.2.2.2.2.1 X.2.2.2.2.2.2.2.2.2.2)) : (Option Value ⊕ String) × px_H))) x) (u6 : Option Value) (u7 : Option Value) (hu7 : px_cz u7 = true) (u8 : Option Value) : Ev S xs 412 2648 [some (.retAddr 0), some (.ref 0), some (.ref 247), some (.ref 261), some (.ref 262), some (.int a5), u6, u7, u8, none] [] (zH I C Y Γ D O M ou od j) y := by
  have hk : pt_mt[412]? = some pt_r412 := rfl
  unfold fw_law_j2648 at hx
  refine ev_ls (L' := [some (.retAddr 0), some (.ref 0), some (.ref 247), some (.ref 261), some (.ref 262), some (.int a5), u6, u7, u8, none]) (st' := [.ref 0]) (pc' := 2649) hk (.aload_n 1) 1 rfl rfl rfl rfl ?_
  refine ev_ls (L' := [some (.retAddr 0), some (.ref 0), some (.ref 247), some (.ref 261), some (.ref 262), some (.int a5), u6, u7, u8, none]) (st' := [.retAddr 0, .ref 0]) (pc' := 2650) hk (.aload_n 0) 1 rfl rfl rfl rfl ?_
  refine ev_ls (L' := [some (.retAddr 0), some (.ref 0), some (.ref 247), some (.ref 261), some (.ref 262), some (.int a5), u6, u7, u8, none]) (st' := [.int a5, .retAddr 0, .ref 0]) (pc' := 2652) hk (.iload 5) 2 rfl rfl rfl rfl ?_
  refine ev_op (st' := [.int 1, .int a5, .retAddr 0, .ref 0]) (pc' := 2653) hk (.iconst 1) 1 rfl rfl rfl ?_
  refine ev_op (st' := [.int (a5 + 1), .retAddr 0, .ref 0]) (pc' := 2654) hk (.iadd) 1 rfl rfl rfl ?_
  obtain ⟨v911, hv911, hx⟩ := bnd_some hx
  refine ev_sal hv911 2655 hk rfl rfl ?_
  refine ev_ls (L' := [some (.retAddr 0), some (.ref 0), some (.ref 247), some (.ref 261), some (.ref 262), some (.int a5), u6, u7, u8, none]) (st' := [.retAddr 0, .int v911, .ref 0]) (pc' := 2656) hk (.aload_n 0) 1 rfl rfl rfl rfl ?_
  refine ev_ls (L' := [some (.retAddr 0), some (.ref 0), some (.ref 247), some (.ref 261), some (.ref 262), some (.int a5), u6, u7, u8, none]) (st' := [.int a5, .retAddr 0, .int v911, .ref 0]) (pc' := 2658) hk (.iload 5) 2 rfl rfl rfl rfl ?_
  refine ev_op (st' := [.int 2, .int a5, .retAddr 0, .int v911, .ref 0]) (pc' := 2659) hk (.iconst 2) 1 rfl rfl rfl ?_
  refine ev_op (st' := [.int (a5 + 2), .retAddr 0, .int v911, .ref 0]) (pc' := 2660) hk (.iadd) 1 rfl rfl rfl ?_
  obtain ⟨v912, hv912, hx⟩ := bnd_some hx
  refine ev_sal hv912 2661 hk rfl rfl ?_
  refine ev_ls (L' := [some (.retAddr 0), some (.ref 0), some (.ref 247), some (.ref 261), some (.ref 262), some (.int a5), u6, u7, u8, none]) (st' := [.ref 261, .int v912, .int v911, .ref 0]) (pc' := 2662) hk (.aload_n 3) 1 rfl rfl rfl rfl ?_
  obtain ⟨v917, Y913, Γ914, ou915, j916, hc918, hx⟩ := bnd5_some hx
  refine ev_cs 403 4 [.int v917] 2665 hk rfl rfl (by decide) rfl rfl rfl (rw_sew hc918) rfl rfl rfl rfl ?_
  refine ev_ls (L' := [some (.retAddr 0), some (.ref 0), some (.ref 247), some (.ref 261), some (.ref 262), some (.int a5), some (.int v917), u7, u8, none]) (st' := []) (pc' := 2667) hk (.istore 6) 2 rfl rfl rfl rfl ?_
  refine ev_ls (L' := [some (.retAddr 0), some (.ref 0), some (.ref 247), some (.ref 261), some (.ref 262), some (.int a5), some (.int v917), u7, u8, none]) (st' := [.ref 247]) (pc' := 2668) hk (.aload_n 2) 1 rfl rfl rfl rfl ?_
  refine ev_ls (L' := [some (.retAddr 0), some (.ref 0), some (.ref 247), some (.ref 261), some (.ref 262), some (.int a5), some (.int v917), u7, u8, none]) (st' := [.retAddr 0, .ref 247]) (pc' := 2669) hk (.aload_n 0) 1 rfl rfl rfl rfl ?_
  refine ev_ls (L' := [some (.retAddr 0), some (.ref 0), some (.ref 247), some (.ref 261), some (.ref 262), some (.int a5), some (.int v917), u7, u8, none]) (st' := [.int a5, .retAddr 0, .ref 247]) (pc' := 2671) hk (.iload 5) 2 rfl rfl rfl rfl ?_
  refine ev_op (st' := [.int 1, .int a5, .retAddr 0, .ref 247]) (pc' := 2672) hk (.iconst 1) 1 rfl rfl rfl ?_
  refine ev_op (st' := [.int (a5 + 1), .retAddr 0, .ref 247]) (pc' := 2673) hk (.iadd) 1 rfl rfl rfl ?_
  obtain ⟨v919, hv919, hx⟩ := bnd_some hx
  refine ev_sal hv919 2674 hk rfl rfl ?_
  refine ev_ls (L' := [some (.retAddr 0), some (.ref 0), some (.ref 247), some (.ref 261), some (.ref 262), some (.int a5), some (.int v917), u7, u8, none]) (st' := [.retAddr 0, .int v919, .ref 247]) (pc' := 2675) hk (.aload_n 0) 1 rfl rfl rfl rfl ?_
  refine ev_ls (L' := [some (.retAddr 0), some (.ref 0), some (.ref 247), some (.ref 261), some (.ref 262), some (.int a5), some (.int v917), u7, u8, none]) (st' := [.int a5, .retAddr 0, .int v919, .ref 247]) (pc' := 2677) hk (.iload 5) 2 rfl rfl rfl rfl ?_
  refine ev_op (st' := [.int 2, .int a5, .retAddr 0, .int v919, .ref 247]) (pc' := 2678) hk (.iconst 2) 1 rfl rfl rfl ?_
  refine ev_op (st' := [.int (a5 + 2), .retAddr 0, .int v919, .ref 247]) (pc' := 2679) hk (.iadd) 1 rfl rfl rfl ?_
  obtain ⟨v920, hv920, hx⟩ := bnd_some hx
  refine ev_sal hv920 2680 hk rfl rfl ?_
  obtain ⟨v922, M921, hc923, hx⟩ := bnd2_some hx
  refine ev_cv 162 2 [.int v922] 2683 hk rfl rfl rfl rfl lk_model rfl rfl rfl (rM_sew hc923) rfl rfl rfl rfl ?_
  refine ev_ls (L' := [some (.retAddr 0), some (.ref 0), some (.ref 247), some (.ref 261), some (.ref 262), some (.int a5), some (.int v917), some (.int v922), u8, none]) (st' := []) (pc' := 2685) hk (.istore 7) 2 rfl rfl rfl rfl ?_
  refine ev_ls (L' := [some (.retAddr 0), some (.ref 0), some (.ref 247), some (.ref 261), some (.ref 262), some (.int a5), some (.int v917), some (.int v922), u8, none]) (st' := [.ref 247]) (pc' := 2686) hk (.aload_n 2) 1 rfl rfl rfl rfl ?_
  refine ev_cv 183 0 [.int (fM_thrown M921)] 2689 hk rfl rfl rfl rfl lk_model rfl rfl rfl (rM_thrown rfl) rfl rfl rfl rfl ?_
  refine ev_ls (L' := [some (.retAddr 0), some (.ref 0), some (.ref 247), some (.ref 261), some (.ref 262), some (.int a5), some (.int v917), some (.int v922), u8, none]) (st' := [.int v917, .int (fM_thrown M921)]) (pc' := 2691) hk (.iload 6) 2 rfl rfl rfl rfl ?_
  refine ev_d2 2696 2694 hk rfl rfl rfl rfl (px_ceq hx (fun hc hx => ?_) (fun hc hx => ?_))
  · refine ev_ls (L' := [some (.retAddr 0), some (.ref 0), some (.ref 247), some (.ref 261), some (.ref 262), some (.int a5), some (.int v917), some (.int v922), u8, none]) (st' := [.int v917]) (pc' := 2698) hk (.iload 6) 2 rfl rfl rfl rfl ?_
    refine ev_d1 2713 2701 hk rfl rfl rfl rfl (px_cne hx (fun hc hx => ?_) (fun hc hx => ?_))
    · refine ev_jp (pc' := 3189) (st' := []) hk (.goto 476) 3 rfl rfl rfl rfl rfl ?_
      refine ev_ls (L' := [some (.retAddr 0), some (.ref 0), some (.ref 247), some (.ref 261), some (.ref 262), some (.int (a5 + 6)), some (.int v917), some (.int v922), u8, none]) (st' := []) (pc' := 3192) hk (.iinc 5 6) 3 rfl rfl rfl rfl ?_
      refine ev_jp (pc' := 28) (st' := []) hk (.goto (-3164)) 3 rfl rfl rfl rfl rfl ?_
      cases hx
      exact hM (some (.int v917)) (some (.int v922)) rfl u8
    · refine ev_ls (L' := [some (.retAddr 0), some (.ref 0), some (.ref 247), some (.ref 261), some (.ref 262), some (.int a5), some (.int v917), some (.int v922), u8, none]) (st' := [.ref 261]) (pc' := 2702) hk (.aload_n 3) 1 rfl rfl rfl rfl ?_
      refine ev_op (st' := [.int 0, .ref 261]) (pc' := 2703) hk (.iconst 0) 1 rfl rfl rfl ?_
      refine ev_lal (v := (ou915 0)) rfl 2704 hk rfl lk_ou rfl ?_
      refine ev_ls (L' := [some (.retAddr 0), some (.ref 0), some (.ref 247), some (.ref 261), some (.ref 262), some (.int a5), some (.int v917), some (.int v922), u8, none]) (st' := [.int v922, .long (ou915 0)]) (pc' := 2706) hk (.iload 7) 2 rfl rfl rfl rfl ?_
      refine ev_op (st' := [.long (Int32.toInt64 v922), .long (ou915 0)]) (pc' := 2707) hk (.i2l) 1 rfl rfl rfl ?_
      refine ev_op (st' := [.int (lg_cmp (ou915 0) (Int32.toInt64 v922))]) (pc' := 2708) hk (.lcmp) 1 rfl rfl rfl ?_
      refine ev_d1 2713 2711 hk rfl rfl rfl rfl (px_leq hx (fun hc hx => ?_) (fun hc hx => ?_))
      · refine ev_jp (pc' := 3189) (st' := []) hk (.goto 476) 3 rfl rfl rfl rfl rfl ?_
        refine ev_ls (L' := [some (.retAddr 0), some (.ref 0), some (.ref 247), some (.ref 261), some (.ref 262), some (.int (a5 + 6)), some (.int v917), some (.int v922), u8, none]) (st' := []) (pc' := 3192) hk (.iinc 5 6) 3 rfl rfl rfl rfl ?_
        refine ev_jp (pc' := 28) (st' := []) hk (.goto (-3164)) 3 rfl rfl rfl rfl rfl ?_
        cases hx
        exact hM (some (.int v917)) (some (.int v922)) rfl u8
      · refine ev_op (st' := [.int 0]) (pc' := 2712) hk (.iconst 0) 1 rfl rfl rfl ?_
        cases hx
        obtain rfl := hM
        exact ev_retZ false rfl hk rfl rfl
  · refine ev_op (st' := [.int 0]) (pc' := 2695) hk (.iconst 0) 1 rfl rfl rfl ?_
    cases hx
    obtain rfl := hM
    exact ev_retZ false rfl hk rfl rfl
set_option maxRecDepth 4000 in
theorem rw_law_j2716 {S : Nat} {xs : Nat → Int32} {I : zI} {C : zC} {Y : Nat → Int32} {Γ : Nat → zG} {D : zD} {O : Nat → Int32} {M : zM} {ou : Nat → Int64} {od : Nat → UInt64} {j : Nat} {a5 : Int32} {y : (Option Value ⊕ String) × px_H} {x : (zI × zC × (Nat → Int32) × (Nat → zG) × zD × (Nat → Int32) × zM × (Nat → Int64) × (Nat → UInt64) × Nat × Int32) ⊕ (Bool × zI × zC × (Nat → Int32) × (Nat → zG) × zD × (Nat → Int32) × zM × (Nat → Int64) × (Nat → UInt64) × Nat)}  (hx : fw_law_j2716 S xs I C Y Γ D O M ou od j a5 = some x) (hM : (Sum.elim (qw_law_28 S xs y) (fun X : Bool × zI × zC × (Nat → Int32) × (Nat → zG) × zD × (Nat → Int32) × zM × (Nat → Int64) × (Nat → UInt64) × Nat => y = (((.inl (some (.int (b2i X.1)))), (zH X.2.1 X.2.2.1 X.2.2.2.1 X.2.2.2.2.1 X.2.2.2.2.2.1 X.2.2.2.2.2.2.1 X.2.2.2.2.2.2.2.1 X.2.2.2.2.2.2.2.2.1 X.2.2.2.2.2.2.2.2.2.1 X.2.2.2.2.2.2.2.2.2.2)) : (Option Value ⊕ String) × px_H))) x) (u6 : Option Value) (u7 : Option Value) (hu7 : px_cz u7 = true) (u8 : Option Value) : Ev S xs 412 2716 [some (.retAddr 0), some (.ref 0), some (.ref 247), some (.ref 261), some (.ref 262), some (.int a5), u6, u7, u8, none] [] (zH I C Y Γ D O M ou od j) y := by
  have hk : pt_mt[412]? = some pt_r412 := rfl
  unfold fw_law_j2716 at hx
  refine ev_ls (L' := [some (.retAddr 0), some (.ref 0), some (.ref 247), some (.ref 261), some (.ref 262), some (.int a5), u6, u7, u8, none]) (st' := [.ref 0]) (pc' := 2717) hk (.aload_n 1) 1 rfl rfl rfl rfl ?_
  refine ev_ls (L' := [some (.retAddr 0), some (.ref 0), some (.ref 247), some (.ref 261), some (.ref 262), some (.int a5), u6, u7, u8, none]) (st' := [.retAddr 0, .ref 0]) (pc' := 2718) hk (.aload_n 0) 1 rfl rfl rfl rfl ?_
  refine ev_ls (L' := [some (.retAddr 0), some (.ref 0), some (.ref 247), some (.ref 261), some (.ref 262), some (.int a5), u6, u7, u8, none]) (st' := [.int a5, .retAddr 0, .ref 0]) (pc' := 2720) hk (.iload 5) 2 rfl rfl rfl rfl ?_
  refine ev_op (st' := [.int 1, .int a5, .retAddr 0, .ref 0]) (pc' := 2721) hk (.iconst 1) 1 rfl rfl rfl ?_
  refine ev_op (st' := [.int (a5 + 1), .retAddr 0, .ref 0]) (pc' := 2722) hk (.iadd) 1 rfl rfl rfl ?_
  obtain ⟨v924, hv924, hx⟩ := bnd_some hx
  refine ev_sal hv924 2723 hk rfl rfl ?_
  refine ev_ls (L' := [some (.retAddr 0), some (.ref 0), some (.ref 247), some (.ref 261), some (.ref 262), some (.int a5), u6, u7, u8, none]) (st' := [.ref 261, .int v924, .ref 0]) (pc' := 2724) hk (.aload_n 3) 1 rfl rfl rfl rfl ?_
  obtain ⟨v929, Y925, Γ926, ou927, j928, hc930, hx⟩ := bnd5_some hx
  refine ev_cs 401 3 [.int v929] 2727 hk rfl rfl (by decide) rfl rfl rfl (rw_rip hc930) rfl rfl rfl rfl ?_
  refine ev_ls (L' := [some (.retAddr 0), some (.ref 0), some (.ref 247), some (.ref 261), some (.ref 262), some (.int a5), some (.int v929), u7, u8, none]) (st' := []) (pc' := 2729) hk (.istore 6) 2 rfl rfl rfl rfl ?_
  refine ev_ls (L' := [some (.retAddr 0), some (.ref 0), some (.ref 247), some (.ref 261), some (.ref 262), some (.int a5), some (.int v929), u7, u8, none]) (st' := [.ref 247]) (pc' := 2730) hk (.aload_n 2) 1 rfl rfl rfl rfl ?_
  refine ev_ls (L' := [some (.retAddr 0), some (.ref 0), some (.ref 247), some (.ref 261), some (.ref 262), some (.int a5), some (.int v929), u7, u8, none]) (st' := [.retAddr 0, .ref 247]) (pc' := 2731) hk (.aload_n 0) 1 rfl rfl rfl rfl ?_
  refine ev_ls (L' := [some (.retAddr 0), some (.ref 0), some (.ref 247), some (.ref 261), some (.ref 262), some (.int a5), some (.int v929), u7, u8, none]) (st' := [.int a5, .retAddr 0, .ref 247]) (pc' := 2733) hk (.iload 5) 2 rfl rfl rfl rfl ?_
  refine ev_op (st' := [.int 1, .int a5, .retAddr 0, .ref 247]) (pc' := 2734) hk (.iconst 1) 1 rfl rfl rfl ?_
  refine ev_op (st' := [.int (a5 + 1), .retAddr 0, .ref 247]) (pc' := 2735) hk (.iadd) 1 rfl rfl rfl ?_
  obtain ⟨v931, hv931, hx⟩ := bnd_some hx
  refine ev_sal hv931 2736 hk rfl rfl ?_
  obtain ⟨v933, M932, hc934, hx⟩ := bnd2_some hx
  refine ev_cv 156 1 [.int v933] 2739 hk rfl rfl rfl rfl lk_model rfl rfl rfl (rM_rip hc934) rfl rfl rfl rfl ?_
  refine ev_ls (L' := [some (.retAddr 0), some (.ref 0), some (.ref 247), some (.ref 261), some (.ref 262), some (.int a5), some (.int v929), some (.int v933), u8, none]) (st' := []) (pc' := 2741) hk (.istore 7) 2 rfl rfl rfl rfl ?_
  refine ev_ls (L' := [some (.retAddr 0), some (.ref 0), some (.ref 247), some (.ref 261), some (.ref 262), some (.int a5), some (.int v929), some (.int v933), u8, none]) (st' := [.ref 247]) (pc' := 2742) hk (.aload_n 2) 1 rfl rfl rfl rfl ?_
  refine ev_cv 183 0 [.int (fM_thrown M932)] 2745 hk rfl rfl rfl rfl lk_model rfl rfl rfl (rM_thrown rfl) rfl rfl rfl rfl ?_
  refine ev_ls (L' := [some (.retAddr 0), some (.ref 0), some (.ref 247), some (.ref 261), some (.ref 262), some (.int a5), some (.int v929), some (.int v933), u8, none]) (st' := [.int v929, .int (fM_thrown M932)]) (pc' := 2747) hk (.iload 6) 2 rfl rfl rfl rfl ?_
  refine ev_d2 2752 2750 hk rfl rfl rfl rfl (px_ceq hx (fun hc hx => ?_) (fun hc hx => ?_))
  · refine ev_ls (L' := [some (.retAddr 0), some (.ref 0), some (.ref 247), some (.ref 261), some (.ref 262), some (.int a5), some (.int v929), some (.int v933), u8, none]) (st' := [.int v929]) (pc' := 2754) hk (.iload 6) 2 rfl rfl rfl rfl ?_
    refine ev_d1 2769 2757 hk rfl rfl rfl rfl (px_cne hx (fun hc hx => ?_) (fun hc hx => ?_))
    · refine ev_jp (pc' := 3189) (st' := []) hk (.goto 420) 3 rfl rfl rfl rfl rfl ?_
      refine ev_ls (L' := [some (.retAddr 0), some (.ref 0), some (.ref 247), some (.ref 261), some (.ref 262), some (.int (a5 + 6)), some (.int v929), some (.int v933), u8, none]) (st' := []) (pc' := 3192) hk (.iinc 5 6) 3 rfl rfl rfl rfl ?_
      refine ev_jp (pc' := 28) (st' := []) hk (.goto (-3164)) 3 rfl rfl rfl rfl rfl ?_
      cases hx
      exact hM (some (.int v929)) (some (.int v933)) rfl u8
    · refine ev_ls (L' := [some (.retAddr 0), some (.ref 0), some (.ref 247), some (.ref 261), some (.ref 262), some (.int a5), some (.int v929), some (.int v933), u8, none]) (st' := [.ref 261]) (pc' := 2758) hk (.aload_n 3) 1 rfl rfl rfl rfl ?_
      refine ev_op (st' := [.int 0, .ref 261]) (pc' := 2759) hk (.iconst 0) 1 rfl rfl rfl ?_
      refine ev_lal (v := (ou927 0)) rfl 2760 hk rfl lk_ou rfl ?_
      refine ev_ls (L' := [some (.retAddr 0), some (.ref 0), some (.ref 247), some (.ref 261), some (.ref 262), some (.int a5), some (.int v929), some (.int v933), u8, none]) (st' := [.int v933, .long (ou927 0)]) (pc' := 2762) hk (.iload 7) 2 rfl rfl rfl rfl ?_
      refine ev_op (st' := [.long (Int32.toInt64 v933), .long (ou927 0)]) (pc' := 2763) hk (.i2l) 1 rfl rfl rfl ?_
      refine ev_op (st' := [.int (lg_cmp (ou927 0) (Int32.toInt64 v933))]) (pc' := 2764) hk (.lcmp) 1 rfl rfl rfl ?_
      refine ev_d1 2769 2767 hk rfl rfl rfl rfl (px_leq hx (fun hc hx => ?_) (fun hc hx => ?_))
      · refine ev_jp (pc' := 3189) (st' := []) hk (.goto 420) 3 rfl rfl rfl rfl rfl ?_
        refine ev_ls (L' := [some (.retAddr 0), some (.ref 0), some (.ref 247), some (.ref 261), some (.ref 262), some (.int (a5 + 6)), some (.int v929), some (.int v933), u8, none]) (st' := []) (pc' := 3192) hk (.iinc 5 6) 3 rfl rfl rfl rfl ?_
        refine ev_jp (pc' := 28) (st' := []) hk (.goto (-3164)) 3 rfl rfl rfl rfl rfl ?_
        cases hx
        exact hM (some (.int v929)) (some (.int v933)) rfl u8
      · refine ev_op (st' := [.int 0]) (pc' := 2768) hk (.iconst 0) 1 rfl rfl rfl ?_
        cases hx
        obtain rfl := hM
        exact ev_retZ false rfl hk rfl rfl
  · refine ev_op (st' := [.int 0]) (pc' := 2751) hk (.iconst 0) 1 rfl rfl rfl ?_
    cases hx
    obtain rfl := hM
    exact ev_retZ false rfl hk rfl rfl
set_option maxRecDepth 4000 in
theorem rw_law_j2772 {S : Nat} {xs : Nat → Int32} {I : zI} {C : zC} {Y : Nat → Int32} {Γ : Nat → zG} {D : zD} {O : Nat → Int32} {M : zM} {ou : Nat → Int64} {od : Nat → UInt64} {j : Nat} {a5 : Int32} {y : (Option Value ⊕ String) × px_H} {x : (zI × zC × (Nat → Int32) × (Nat → zG) × zD × (Nat → Int32) × zM × (Nat → Int64) × (Nat → UInt64) × Nat × Int32) ⊕ (Bool × zI × zC × (Nat → Int32) × (Nat → zG) × zD × (Nat → Int32) × zM × (Nat → Int64) × (Nat → UInt64) × Nat)}  (hx : fw_law_j2772 S xs I C Y Γ D O M ou od j a5 = some x) (hM : (Sum.elim (qw_law_28 S xs y) (fun X : Bool × zI × zC × (Nat → Int32) × (Nat → zG) × zD × (Nat → Int32) × zM × (Nat → Int64) × (Nat → UInt64) × Nat => y = (((.inl (some (.int (b2i X.1)))), (zH X.2.1 X.2.2.1 X.2.2.2.1 X.2.2.2.2.1 X.2.2.2.2.2.1 X.2.2.2.2.2.2.1 X.2.2.2.2.2.2.2.1 X.2.2.2.2.2.2.2.2.1 X.2.2.2.2.2.2.2.2.2.1 X.2.2.2.2.2.2.2.2.2.2)) : (Option Value ⊕ String) × px_H))) x) (u6 : Option Value) (u7 : Option Value) (hu7 : px_cz u7 = true) (u8 : Option Value) : Ev S xs 412 2772 [some (.retAddr 0), some (.ref 0), some (.ref 247), some (.ref 261), some (.ref 262), some (.int a5), u6, u7, u8, none] [] (zH I C Y Γ D O M ou od j) y := by
  have hk : pt_mt[412]? = some pt_r412 := rfl
  unfold fw_law_j2772 at hx
  refine ev_ls (L' := [some (.retAddr 0), some (.ref 0), some (.ref 247), some (.ref 261), some (.ref 262), some (.int a5), u6, u7, u8, none]) (st' := [.ref 0]) (pc' := 2773) hk (.aload_n 1) 1 rfl rfl rfl rfl ?_
  refine ev_ls (L' := [some (.retAddr 0), some (.ref 0), some (.ref 247), some (.ref 261), some (.ref 262), some (.int a5), u6, u7, u8, none]) (st' := [.retAddr 0, .ref 0]) (pc' := 2774) hk (.aload_n 0) 1 rfl rfl rfl rfl ?_
  refine ev_ls (L' := [some (.retAddr 0), some (.ref 0), some (.ref 247), some (.ref 261), some (.ref 262), some (.int a5), u6, u7, u8, none]) (st' := [.int a5, .retAddr 0, .ref 0]) (pc' := 2776) hk (.iload 5) 2 rfl rfl rfl rfl ?_
  refine ev_op (st' := [.int 1, .int a5, .retAddr 0, .ref 0]) (pc' := 2777) hk (.iconst 1) 1 rfl rfl rfl ?_
  refine ev_op (st' := [.int (a5 + 1), .retAddr 0, .ref 0]) (pc' := 2778) hk (.iadd) 1 rfl rfl rfl ?_
  obtain ⟨v935, hv935, hx⟩ := bnd_some hx
  refine ev_sal hv935 2779 hk rfl rfl ?_
  refine ev_ls (L' := [some (.retAddr 0), some (.ref 0), some (.ref 247), some (.ref 261), some (.ref 262), some (.int a5), u6, u7, u8, none]) (st' := [.retAddr 0, .int v935, .ref 0]) (pc' := 2780) hk (.aload_n 0) 1 rfl rfl rfl rfl ?_
  refine ev_ls (L' := [some (.retAddr 0), some (.ref 0), some (.ref 247), some (.ref 261), some (.ref 262), some (.int a5), u6, u7, u8, none]) (st' := [.int a5, .retAddr 0, .int v935, .ref 0]) (pc' := 2782) hk (.iload 5) 2 rfl rfl rfl rfl ?_
  refine ev_op (st' := [.int 2, .int a5, .retAddr 0, .int v935, .ref 0]) (pc' := 2783) hk (.iconst 2) 1 rfl rfl rfl ?_
  refine ev_op (st' := [.int (a5 + 2), .retAddr 0, .int v935, .ref 0]) (pc' := 2784) hk (.iadd) 1 rfl rfl rfl ?_
  obtain ⟨v936, hv936, hx⟩ := bnd_some hx
  refine ev_sal hv936 2785 hk rfl rfl ?_
  refine ev_ls (L' := [some (.retAddr 0), some (.ref 0), some (.ref 247), some (.ref 261), some (.ref 262), some (.int a5), u6, u7, u8, none]) (st' := [.ref 261, .int v936, .int v935, .ref 0]) (pc' := 2786) hk (.aload_n 3) 1 rfl rfl rfl rfl ?_
  obtain ⟨v941, Y937, Γ938, ou939, j940, hc942, hx⟩ := bnd5_some hx
  refine ev_cs 404 4 [.int v941] 2789 hk rfl rfl (by decide) rfl rfl rfl (rw_step hc942) rfl rfl rfl rfl ?_
  refine ev_ls (L' := [some (.retAddr 0), some (.ref 0), some (.ref 247), some (.ref 261), some (.ref 262), some (.int a5), some (.int v941), u7, u8, none]) (st' := []) (pc' := 2791) hk (.istore 6) 2 rfl rfl rfl rfl ?_
  refine ev_ls (L' := [some (.retAddr 0), some (.ref 0), some (.ref 247), some (.ref 261), some (.ref 262), some (.int a5), some (.int v941), u7, u8, none]) (st' := [.ref 247]) (pc' := 2792) hk (.aload_n 2) 1 rfl rfl rfl rfl ?_
  refine ev_ls (L' := [some (.retAddr 0), some (.ref 0), some (.ref 247), some (.ref 261), some (.ref 262), some (.int a5), some (.int v941), u7, u8, none]) (st' := [.retAddr 0, .ref 247]) (pc' := 2793) hk (.aload_n 0) 1 rfl rfl rfl rfl ?_
  refine ev_ls (L' := [some (.retAddr 0), some (.ref 0), some (.ref 247), some (.ref 261), some (.ref 262), some (.int a5), some (.int v941), u7, u8, none]) (st' := [.int a5, .retAddr 0, .ref 247]) (pc' := 2795) hk (.iload 5) 2 rfl rfl rfl rfl ?_
  refine ev_op (st' := [.int 1, .int a5, .retAddr 0, .ref 247]) (pc' := 2796) hk (.iconst 1) 1 rfl rfl rfl ?_
  refine ev_op (st' := [.int (a5 + 1), .retAddr 0, .ref 247]) (pc' := 2797) hk (.iadd) 1 rfl rfl rfl ?_
  obtain ⟨v943, hv943, hx⟩ := bnd_some hx
  refine ev_sal hv943 2798 hk rfl rfl ?_
  refine ev_ls (L' := [some (.retAddr 0), some (.ref 0), some (.ref 247), some (.ref 261), some (.ref 262), some (.int a5), some (.int v941), u7, u8, none]) (st' := [.retAddr 0, .int v943, .ref 247]) (pc' := 2799) hk (.aload_n 0) 1 rfl rfl rfl rfl ?_
  refine ev_ls (L' := [some (.retAddr 0), some (.ref 0), some (.ref 247), some (.ref 261), some (.ref 262), some (.int a5), some (.int v941), u7, u8, none]) (st' := [.int a5, .retAddr 0, .int v943, .ref 247]) (pc' := 2801) hk (.iload 5) 2 rfl rfl rfl rfl ?_
  refine ev_op (st' := [.int 2, .int a5, .retAddr 0, .int v943, .ref 247]) (pc' := 2802) hk (.iconst 2) 1 rfl rfl rfl ?_
  refine ev_op (st' := [.int (a5 + 2), .retAddr 0, .int v943, .ref 247]) (pc' := 2803) hk (.iadd) 1 rfl rfl rfl ?_
  obtain ⟨v944, hv944, hx⟩ := bnd_some hx
  refine ev_sal hv944 2804 hk rfl rfl ?_
  obtain ⟨v946, M945, hc947, hx⟩ := bnd2_some hx
  refine ev_cv 171 2 [.int v946] 2807 hk rfl rfl rfl rfl lk_model rfl rfl rfl (rM_step hc947) rfl rfl rfl rfl ?_
  refine ev_ls (L' := [some (.retAddr 0), some (.ref 0), some (.ref 247), some (.ref 261), some (.ref 262), some (.int a5), some (.int v941), some (.int v946), u8, none]) (st' := []) (pc' := 2809) hk (.istore 7) 2 rfl rfl rfl rfl ?_
  refine ev_ls (L' := [some (.retAddr 0), some (.ref 0), some (.ref 247), some (.ref 261), some (.ref 262), some (.int a5), some (.int v941), some (.int v946), u8, none]) (st' := [.ref 247]) (pc' := 2810) hk (.aload_n 2) 1 rfl rfl rfl rfl ?_
  refine ev_cv 183 0 [.int (fM_thrown M945)] 2813 hk rfl rfl rfl rfl lk_model rfl rfl rfl (rM_thrown rfl) rfl rfl rfl rfl ?_
  refine ev_ls (L' := [some (.retAddr 0), some (.ref 0), some (.ref 247), some (.ref 261), some (.ref 262), some (.int a5), some (.int v941), some (.int v946), u8, none]) (st' := [.int v941, .int (fM_thrown M945)]) (pc' := 2815) hk (.iload 6) 2 rfl rfl rfl rfl ?_
  refine ev_d2 2820 2818 hk rfl rfl rfl rfl (px_ceq hx (fun hc hx => ?_) (fun hc hx => ?_))
  · refine ev_ls (L' := [some (.retAddr 0), some (.ref 0), some (.ref 247), some (.ref 261), some (.ref 262), some (.int a5), some (.int v941), some (.int v946), u8, none]) (st' := [.int v941]) (pc' := 2822) hk (.iload 6) 2 rfl rfl rfl rfl ?_
    refine ev_d1 2837 2825 hk rfl rfl rfl rfl (px_cne hx (fun hc hx => ?_) (fun hc hx => ?_))
    · refine ev_jp (pc' := 3189) (st' := []) hk (.goto 352) 3 rfl rfl rfl rfl rfl ?_
      refine ev_ls (L' := [some (.retAddr 0), some (.ref 0), some (.ref 247), some (.ref 261), some (.ref 262), some (.int (a5 + 6)), some (.int v941), some (.int v946), u8, none]) (st' := []) (pc' := 3192) hk (.iinc 5 6) 3 rfl rfl rfl rfl ?_
      refine ev_jp (pc' := 28) (st' := []) hk (.goto (-3164)) 3 rfl rfl rfl rfl rfl ?_
      cases hx
      exact hM (some (.int v941)) (some (.int v946)) rfl u8
    · refine ev_ls (L' := [some (.retAddr 0), some (.ref 0), some (.ref 247), some (.ref 261), some (.ref 262), some (.int a5), some (.int v941), some (.int v946), u8, none]) (st' := [.ref 261]) (pc' := 2826) hk (.aload_n 3) 1 rfl rfl rfl rfl ?_
      refine ev_op (st' := [.int 0, .ref 261]) (pc' := 2827) hk (.iconst 0) 1 rfl rfl rfl ?_
      refine ev_lal (v := (ou939 0)) rfl 2828 hk rfl lk_ou rfl ?_
      refine ev_ls (L' := [some (.retAddr 0), some (.ref 0), some (.ref 247), some (.ref 261), some (.ref 262), some (.int a5), some (.int v941), some (.int v946), u8, none]) (st' := [.int v946, .long (ou939 0)]) (pc' := 2830) hk (.iload 7) 2 rfl rfl rfl rfl ?_
      refine ev_op (st' := [.long (Int32.toInt64 v946), .long (ou939 0)]) (pc' := 2831) hk (.i2l) 1 rfl rfl rfl ?_
      refine ev_op (st' := [.int (lg_cmp (ou939 0) (Int32.toInt64 v946))]) (pc' := 2832) hk (.lcmp) 1 rfl rfl rfl ?_
      refine ev_d1 2837 2835 hk rfl rfl rfl rfl (px_leq hx (fun hc hx => ?_) (fun hc hx => ?_))
      · refine ev_jp (pc' := 3189) (st' := []) hk (.goto 352) 3 rfl rfl rfl rfl rfl ?_
        refine ev_ls (L' := [some (.retAddr 0), some (.ref 0), some (.ref 247), some (.ref 261), some (.ref 262), some (.int (a5 + 6)), some (.int v941), some (.int v946), u8, none]) (st' := []) (pc' := 3192) hk (.iinc 5 6) 3 rfl rfl rfl rfl ?_
        refine ev_jp (pc' := 28) (st' := []) hk (.goto (-3164)) 3 rfl rfl rfl rfl rfl ?_
        cases hx
        exact hM (some (.int v941)) (some (.int v946)) rfl u8
      · refine ev_op (st' := [.int 0]) (pc' := 2836) hk (.iconst 0) 1 rfl rfl rfl ?_
        cases hx
        obtain rfl := hM
        exact ev_retZ false rfl hk rfl rfl
  · refine ev_op (st' := [.int 0]) (pc' := 2819) hk (.iconst 0) 1 rfl rfl rfl ?_
    cases hx
    obtain rfl := hM
    exact ev_retZ false rfl hk rfl rfl
set_option maxRecDepth 4000 in
theorem rw_law_j2840 {S : Nat} {xs : Nat → Int32} {I : zI} {C : zC} {Y : Nat → Int32} {Γ : Nat → zG} {D : zD} {O : Nat → Int32} {M : zM} {ou : Nat → Int64} {od : Nat → UInt64} {j : Nat} {a5 : Int32} {y : (Option Value ⊕ String) × px_H} {x : (zI × zC × (Nat → Int32) × (Nat → zG) × zD × (Nat → Int32) × zM × (Nat → Int64) × (Nat → UInt64) × Nat × Int32) ⊕ (Bool × zI × zC × (Nat → Int32) × (Nat → zG) × zD × (Nat → Int32) × zM × (Nat → Int64) × (Nat → UInt64) × Nat)}  (hx : fw_law_j2840 S xs I C Y Γ D O M ou od j a5 = some x) (hM : (Sum.elim (qw_law_28 S xs y) (fun X : Bool × zI × zC × (Nat → Int32) × (Nat → zG) × zD × (Nat → Int32) × zM × (Nat → Int64) × (Nat → UInt64) × Nat => y = (((.inl (some (.int (b2i X.1)))), (zH X.2.1 X.2.2.1 X.2.2.2.1 X.2.2.2.2.1 X.2.2.2.2.2.1 X.2.2.2.2.2.2.1 X.2.2.2.2.2.2.2.1 X.2.2.2.2.2.2.2.2.1 X.2.2.2.2.2.2.2.2.2.1 X.2.2.2.2.2.2.2.2.2.2)) : (Option Value ⊕ String) × px_H))) x) (u6 : Option Value) (u7 : Option Value) (hu7 : px_cz u7 = true) (u8 : Option Value) : Ev S xs 412 2840 [some (.retAddr 0), some (.ref 0), some (.ref 247), some (.ref 261), some (.ref 262), some (.int a5), u6, u7, u8, none] [] (zH I C Y Γ D O M ou od j) y := by
  have hk : pt_mt[412]? = some pt_r412 := rfl
  unfold fw_law_j2840 at hx
  refine ev_ls (L' := [some (.retAddr 0), some (.ref 0), some (.ref 247), some (.ref 261), some (.ref 262), some (.int a5), u6, u7, u8, none]) (st' := [.ref 0]) (pc' := 2841) hk (.aload_n 1) 1 rfl rfl rfl rfl ?_
  refine ev_ls (L' := [some (.retAddr 0), some (.ref 0), some (.ref 247), some (.ref 261), some (.ref 262), some (.int a5), u6, u7, u8, none]) (st' := [.retAddr 0, .ref 0]) (pc' := 2842) hk (.aload_n 0) 1 rfl rfl rfl rfl ?_
  refine ev_ls (L' := [some (.retAddr 0), some (.ref 0), some (.ref 247), some (.ref 261), some (.ref 262), some (.int a5), u6, u7, u8, none]) (st' := [.int a5, .retAddr 0, .ref 0]) (pc' := 2844) hk (.iload 5) 2 rfl rfl rfl rfl ?_
  refine ev_op (st' := [.int 1, .int a5, .retAddr 0, .ref 0]) (pc' := 2845) hk (.iconst 1) 1 rfl rfl rfl ?_
  refine ev_op (st' := [.int (a5 + 1), .retAddr 0, .ref 0]) (pc' := 2846) hk (.iadd) 1 rfl rfl rfl ?_
  obtain ⟨v948, hv948, hx⟩ := bnd_some hx
  refine ev_sal hv948 2847 hk rfl rfl ?_
  refine ev_ls (L' := [some (.retAddr 0), some (.ref 0), some (.ref 247), some (.ref 261), some (.ref 262), some (.int a5), u6, u7, u8, none]) (st' := [.retAddr 0, .int v948, .ref 0]) (pc' := 2848) hk (.aload_n 0) 1 rfl rfl rfl rfl ?_
  refine ev_ls (L' := [some (.retAddr 0), some (.ref 0), some (.ref 247), some (.ref 261), some (.ref 262), some (.int a5), u6, u7, u8, none]) (st' := [.int a5, .retAddr 0, .int v948, .ref 0]) (pc' := 2850) hk (.iload 5) 2 rfl rfl rfl rfl ?_
  refine ev_op (st' := [.int 2, .int a5, .retAddr 0, .int v948, .ref 0]) (pc' := 2851) hk (.iconst 2) 1 rfl rfl rfl ?_
  refine ev_op (st' := [.int (a5 + 2), .retAddr 0, .int v948, .ref 0]) (pc' := 2852) hk (.iadd) 1 rfl rfl rfl ?_
  obtain ⟨v949, hv949, hx⟩ := bnd_some hx
  refine ev_sal hv949 2853 hk rfl rfl ?_
  refine ev_ls (L' := [some (.retAddr 0), some (.ref 0), some (.ref 247), some (.ref 261), some (.ref 262), some (.int a5), u6, u7, u8, none]) (st' := [.retAddr 0, .int v949, .int v948, .ref 0]) (pc' := 2854) hk (.aload_n 0) 1 rfl rfl rfl rfl ?_
  refine ev_ls (L' := [some (.retAddr 0), some (.ref 0), some (.ref 247), some (.ref 261), some (.ref 262), some (.int a5), u6, u7, u8, none]) (st' := [.int a5, .retAddr 0, .int v949, .int v948, .ref 0]) (pc' := 2856) hk (.iload 5) 2 rfl rfl rfl rfl ?_
  refine ev_op (st' := [.int 3, .int a5, .retAddr 0, .int v949, .int v948, .ref 0]) (pc' := 2857) hk (.iconst 3) 1 rfl rfl rfl ?_
  refine ev_op (st' := [.int (a5 + 3), .retAddr 0, .int v949, .int v948, .ref 0]) (pc' := 2858) hk (.iadd) 1 rfl rfl rfl ?_
  obtain ⟨v950, hv950, hx⟩ := bnd_some hx
  refine ev_sal hv950 2859 hk rfl rfl ?_
  refine ev_ls (L' := [some (.retAddr 0), some (.ref 0), some (.ref 247), some (.ref 261), some (.ref 262), some (.int a5), u6, u7, u8, none]) (st' := [.ref 261, .int v950, .int v949, .int v948, .ref 0]) (pc' := 2860) hk (.aload_n 3) 1 rfl rfl rfl rfl ?_
  obtain ⟨v955, Y951, Γ952, ou953, j954, hc956, hx⟩ := bnd5_some hx
  refine ev_cs 410 5 [.int v955] 2863 hk rfl rfl (by decide) rfl rfl rfl (rw_walk hc956) rfl rfl rfl rfl ?_
  refine ev_ls (L' := [some (.retAddr 0), some (.ref 0), some (.ref 247), some (.ref 261), some (.ref 262), some (.int a5), some (.int v955), u7, u8, none]) (st' := []) (pc' := 2865) hk (.istore 6) 2 rfl rfl rfl rfl ?_
  refine ev_ls (L' := [some (.retAddr 0), some (.ref 0), some (.ref 247), some (.ref 261), some (.ref 262), some (.int a5), some (.int v955), u7, u8, none]) (st' := [.ref 247]) (pc' := 2866) hk (.aload_n 2) 1 rfl rfl rfl rfl ?_
  refine ev_ls (L' := [some (.retAddr 0), some (.ref 0), some (.ref 247), some (.ref 261), some (.ref 262), some (.int a5), some (.int v955), u7, u8, none]) (st' := [.retAddr 0, .ref 247]) (pc' := 2867) hk (.aload_n 0) 1 rfl rfl rfl rfl ?_
  refine ev_ls (L' := [some (.retAddr 0), some (.ref 0), some (.ref 247), some (.ref 261), some (.ref 262), some (.int a5), some (.int v955), u7, u8, none]) (st' := [.int a5, .retAddr 0, .ref 247]) (pc' := 2869) hk (.iload 5) 2 rfl rfl rfl rfl ?_
  refine ev_op (st' := [.int 1, .int a5, .retAddr 0, .ref 247]) (pc' := 2870) hk (.iconst 1) 1 rfl rfl rfl ?_
  refine ev_op (st' := [.int (a5 + 1), .retAddr 0, .ref 247]) (pc' := 2871) hk (.iadd) 1 rfl rfl rfl ?_
  obtain ⟨v957, hv957, hx⟩ := bnd_some hx
  refine ev_sal hv957 2872 hk rfl rfl ?_
  refine ev_ls (L' := [some (.retAddr 0), some (.ref 0), some (.ref 247), some (.ref 261), some (.ref 262), some (.int a5), some (.int v955), u7, u8, none]) (st' := [.retAddr 0, .int v957, .ref 247]) (pc' := 2873) hk (.aload_n 0) 1 rfl rfl rfl rfl ?_
  refine ev_ls (L' := [some (.retAddr 0), some (.ref 0), some (.ref 247), some (.ref 261), some (.ref 262), some (.int a5), some (.int v955), u7, u8, none]) (st' := [.int a5, .retAddr 0, .int v957, .ref 247]) (pc' := 2875) hk (.iload 5) 2 rfl rfl rfl rfl ?_
  refine ev_op (st' := [.int 2, .int a5, .retAddr 0, .int v957, .ref 247]) (pc' := 2876) hk (.iconst 2) 1 rfl rfl rfl ?_
  refine ev_op (st' := [.int (a5 + 2), .retAddr 0, .int v957, .ref 247]) (pc' := 2877) hk (.iadd) 1 rfl rfl rfl ?_
  obtain ⟨v958, hv958, hx⟩ := bnd_some hx
  refine ev_sal hv958 2878 hk rfl rfl ?_
  refine ev_ls (L' := [some (.retAddr 0), some (.ref 0), some (.ref 247), some (.ref 261), some (.ref 262), some (.int a5), some (.int v955), u7, u8, none]) (st' := [.retAddr 0, .int v958, .int v957, .ref 247]) (pc' := 2879) hk (.aload_n 0) 1 rfl rfl rfl rfl ?_
  refine ev_ls (L' := [some (.retAddr 0), some (.ref 0), some (.ref 247), some (.ref 261), some (.ref 262), some (.int a5), some (.int v955), u7, u8, none]) (st' := [.int a5, .retAddr 0, .int v958, .int v957, .ref 247]) (pc' := 2881) hk (.iload 5) 2 rfl rfl rfl rfl ?_
  refine ev_op (st' := [.int 3, .int a5, .retAddr 0, .int v958, .int v957, .ref 247]) (pc' := 2882) hk (.iconst 3) 1 rfl rfl rfl ?_
  refine ev_op (st' := [.int (a5 + 3), .retAddr 0, .int v958, .int v957, .ref 247]) (pc' := 2883) hk (.iadd) 1 rfl rfl rfl ?_
  obtain ⟨v959, hv959, hx⟩ := bnd_some hx
  refine ev_sal hv959 2884 hk rfl rfl ?_
  obtain ⟨v961, M960, hc962, hx⟩ := bnd2_some hx
  refine ev_cv 193 3 [.int v961] 2887 hk rfl rfl rfl rfl lk_model rfl rfl rfl (rM_walk hc962) rfl rfl rfl rfl ?_
  refine ev_ls (L' := [some (.retAddr 0), some (.ref 0), some (.ref 247), some (.ref 261), some (.ref 262), some (.int a5), some (.int v955), some (.int v961), u8, none]) (st' := []) (pc' := 2889) hk (.istore 7) 2 rfl rfl rfl rfl ?_
  refine ev_ls (L' := [some (.retAddr 0), some (.ref 0), some (.ref 247), some (.ref 261), some (.ref 262), some (.int a5), some (.int v955), some (.int v961), u8, none]) (st' := [.ref 247]) (pc' := 2890) hk (.aload_n 2) 1 rfl rfl rfl rfl ?_
  refine ev_cv 183 0 [.int (fM_thrown M960)] 2893 hk rfl rfl rfl rfl lk_model rfl rfl rfl (rM_thrown rfl) rfl rfl rfl rfl ?_
  refine ev_ls (L' := [some (.retAddr 0), some (.ref 0), some (.ref 247), some (.ref 261), some (.ref 262), some (.int a5), some (.int v955), some (.int v961), u8, none]) (st' := [.int v955, .int (fM_thrown M960)]) (pc' := 2895) hk (.iload 6) 2 rfl rfl rfl rfl ?_
  refine ev_d2 2900 2898 hk rfl rfl rfl rfl (px_ceq hx (fun hc hx => ?_) (fun hc hx => ?_))
  · refine ev_ls (L' := [some (.retAddr 0), some (.ref 0), some (.ref 247), some (.ref 261), some (.ref 262), some (.int a5), some (.int v955), some (.int v961), u8, none]) (st' := [.int v955]) (pc' := 2902) hk (.iload 6) 2 rfl rfl rfl rfl ?_
    refine ev_d1 2917 2905 hk rfl rfl rfl rfl (px_cne hx (fun hc hx => ?_) (fun hc hx => ?_))
    · refine ev_jp (pc' := 3189) (st' := []) hk (.goto 272) 3 rfl rfl rfl rfl rfl ?_
      refine ev_ls (L' := [some (.retAddr 0), some (.ref 0), some (.ref 247), some (.ref 261), some (.ref 262), some (.int (a5 + 6)), some (.int v955), some (.int v961), u8, none]) (st' := []) (pc' := 3192) hk (.iinc 5 6) 3 rfl rfl rfl rfl ?_
      refine ev_jp (pc' := 28) (st' := []) hk (.goto (-3164)) 3 rfl rfl rfl rfl rfl ?_
      cases hx
      exact hM (some (.int v955)) (some (.int v961)) rfl u8
    · refine ev_ls (L' := [some (.retAddr 0), some (.ref 0), some (.ref 247), some (.ref 261), some (.ref 262), some (.int a5), some (.int v955), some (.int v961), u8, none]) (st' := [.ref 261]) (pc' := 2906) hk (.aload_n 3) 1 rfl rfl rfl rfl ?_
      refine ev_op (st' := [.int 0, .ref 261]) (pc' := 2907) hk (.iconst 0) 1 rfl rfl rfl ?_
      refine ev_lal (v := (ou953 0)) rfl 2908 hk rfl lk_ou rfl ?_
      refine ev_ls (L' := [some (.retAddr 0), some (.ref 0), some (.ref 247), some (.ref 261), some (.ref 262), some (.int a5), some (.int v955), some (.int v961), u8, none]) (st' := [.int v961, .long (ou953 0)]) (pc' := 2910) hk (.iload 7) 2 rfl rfl rfl rfl ?_
      refine ev_op (st' := [.long (Int32.toInt64 v961), .long (ou953 0)]) (pc' := 2911) hk (.i2l) 1 rfl rfl rfl ?_
      refine ev_op (st' := [.int (lg_cmp (ou953 0) (Int32.toInt64 v961))]) (pc' := 2912) hk (.lcmp) 1 rfl rfl rfl ?_
      refine ev_d1 2917 2915 hk rfl rfl rfl rfl (px_leq hx (fun hc hx => ?_) (fun hc hx => ?_))
      · refine ev_jp (pc' := 3189) (st' := []) hk (.goto 272) 3 rfl rfl rfl rfl rfl ?_
        refine ev_ls (L' := [some (.retAddr 0), some (.ref 0), some (.ref 247), some (.ref 261), some (.ref 262), some (.int (a5 + 6)), some (.int v955), some (.int v961), u8, none]) (st' := []) (pc' := 3192) hk (.iinc 5 6) 3 rfl rfl rfl rfl ?_
        refine ev_jp (pc' := 28) (st' := []) hk (.goto (-3164)) 3 rfl rfl rfl rfl rfl ?_
        cases hx
        exact hM (some (.int v955)) (some (.int v961)) rfl u8
      · refine ev_op (st' := [.int 0]) (pc' := 2916) hk (.iconst 0) 1 rfl rfl rfl ?_
        cases hx
        obtain rfl := hM
        exact ev_retZ false rfl hk rfl rfl
  · refine ev_op (st' := [.int 0]) (pc' := 2899) hk (.iconst 0) 1 rfl rfl rfl ?_
    cases hx
    obtain rfl := hM
    exact ev_retZ false rfl hk rfl rfl
set_option maxRecDepth 4000 in
theorem rw_law_j2920 {S : Nat} {xs : Nat → Int32} {I : zI} {C : zC} {Y : Nat → Int32} {Γ : Nat → zG} {D : zD} {O : Nat → Int32} {M : zM} {ou : Nat → Int64} {od : Nat → UInt64} {j : Nat} {a5 : Int32} {y : (Option Value ⊕ String) × px_H} {x : (zI × zC × (Nat → Int32) × (Nat → zG) × zD × (Nat → Int32) × zM × (Nat → Int64) × (Nat → UInt64) × Nat × Int32) ⊕ (Bool × zI × zC × (Nat → Int32) × (Nat → zG) × zD × (Nat → Int32) × zM × (Nat → Int64) × (Nat → UInt64) × Nat)}  (hx : fw_law_j2920 S xs I C Y Γ D O M ou od j a5 = some x) (hM : (Sum.elim (qw_law_28 S xs y) (fun X : Bool × zI × zC × (Nat → Int32) × (Nat → zG) × zD × (Nat → Int32) × zM × (Nat → Int64) × (Nat → UInt64) × Nat => y = (((.inl (some (.int (b2i X.1)))), (zH X.2.1 X.2.2.1 X.2.2.2.1 X.2.2.2.2.1 X.2.2.2.2.2.1 X.2.2.2.2.2.2.1 X.2.2.2.2.2.2.2.1 X.2.2.2.2.2.2.2.2.1 X.2.2.2.2.2.2.2.2.2.1 X.2.2.2.2.2.2.2.2.2.2)) : (Option Value ⊕ String) × px_H))) x) (u6 : Option Value) (u7 : Option Value) (hu7 : px_cz u7 = true) (u8 : Option Value) : Ev S xs 412 2920 [some (.retAddr 0), some (.ref 0), some (.ref 247), some (.ref 261), some (.ref 262), some (.int a5), u6, u7, u8, none] [] (zH I C Y Γ D O M ou od j) y := by
  have hk : pt_mt[412]? = some pt_r412 := rfl
  unfold fw_law_j2920 at hx
  refine ev_ls (L' := [some (.retAddr 0), some (.ref 0), some (.ref 247), some (.ref 261), some (.ref 262), some (.int a5), u6, u7, u8, none]) (st' := [.ref 0]) (pc' := 2921) hk (.aload_n 1) 1 rfl rfl rfl rfl ?_
  refine ev_ls (L' := [some (.retAddr 0), some (.ref 0), some (.ref 247), some (.ref 261), some (.ref 262), some (.int a5), u6, u7, u8, none]) (st' := [.retAddr 0, .ref 0]) (pc' := 2922) hk (.aload_n 0) 1 rfl rfl rfl rfl ?_
  refine ev_ls (L' := [some (.retAddr 0), some (.ref 0), some (.ref 247), some (.ref 261), some (.ref 262), some (.int a5), u6, u7, u8, none]) (st' := [.int a5, .retAddr 0, .ref 0]) (pc' := 2924) hk (.iload 5) 2 rfl rfl rfl rfl ?_
  refine ev_op (st' := [.int 1, .int a5, .retAddr 0, .ref 0]) (pc' := 2925) hk (.iconst 1) 1 rfl rfl rfl ?_
  refine ev_op (st' := [.int (a5 + 1), .retAddr 0, .ref 0]) (pc' := 2926) hk (.iadd) 1 rfl rfl rfl ?_
  obtain ⟨v963, hv963, hx⟩ := bnd_some hx
  refine ev_sal hv963 2927 hk rfl rfl ?_
  refine ev_ls (L' := [some (.retAddr 0), some (.ref 0), some (.ref 247), some (.ref 261), some (.ref 262), some (.int a5), u6, u7, u8, none]) (st' := [.ref 261, .int v963, .ref 0]) (pc' := 2928) hk (.aload_n 3) 1 rfl rfl rfl rfl ?_
  obtain ⟨v968, Y964, Γ965, ou966, j967, hc969, hx⟩ := bnd5_some hx
  refine ev_cs 397 3 [.int v968] 2931 hk rfl rfl (by decide) rfl rfl rfl (rw_pass hc969) rfl rfl rfl rfl ?_
  refine ev_ls (L' := [some (.retAddr 0), some (.ref 0), some (.ref 247), some (.ref 261), some (.ref 262), some (.int a5), some (.int v968), u7, u8, none]) (st' := []) (pc' := 2933) hk (.istore 6) 2 rfl rfl rfl rfl ?_
  refine ev_ls (L' := [some (.retAddr 0), some (.ref 0), some (.ref 247), some (.ref 261), some (.ref 262), some (.int a5), some (.int v968), u7, u8, none]) (st' := [.ref 247]) (pc' := 2934) hk (.aload_n 2) 1 rfl rfl rfl rfl ?_
  refine ev_ls (L' := [some (.retAddr 0), some (.ref 0), some (.ref 247), some (.ref 261), some (.ref 262), some (.int a5), some (.int v968), u7, u8, none]) (st' := [.retAddr 0, .ref 247]) (pc' := 2935) hk (.aload_n 0) 1 rfl rfl rfl rfl ?_
  refine ev_ls (L' := [some (.retAddr 0), some (.ref 0), some (.ref 247), some (.ref 261), some (.ref 262), some (.int a5), some (.int v968), u7, u8, none]) (st' := [.int a5, .retAddr 0, .ref 247]) (pc' := 2937) hk (.iload 5) 2 rfl rfl rfl rfl ?_
  refine ev_op (st' := [.int 1, .int a5, .retAddr 0, .ref 247]) (pc' := 2938) hk (.iconst 1) 1 rfl rfl rfl ?_
  refine ev_op (st' := [.int (a5 + 1), .retAddr 0, .ref 247]) (pc' := 2939) hk (.iadd) 1 rfl rfl rfl ?_
  obtain ⟨v970, hv970, hx⟩ := bnd_some hx
  refine ev_sal hv970 2940 hk rfl rfl ?_
  obtain ⟨v972, M971, hc973, hx⟩ := bnd2_some hx
  refine ev_cv 147 1 [.int v972] 2943 hk rfl rfl rfl rfl lk_model rfl rfl rfl (rM_pass hc973) rfl rfl rfl rfl ?_
  refine ev_ls (L' := [some (.retAddr 0), some (.ref 0), some (.ref 247), some (.ref 261), some (.ref 262), some (.int a5), some (.int v968), some (.int v972), u8, none]) (st' := []) (pc' := 2945) hk (.istore 7) 2 rfl rfl rfl rfl ?_
  refine ev_ls (L' := [some (.retAddr 0), some (.ref 0), some (.ref 247), some (.ref 261), some (.ref 262), some (.int a5), some (.int v968), some (.int v972), u8, none]) (st' := [.ref 247]) (pc' := 2946) hk (.aload_n 2) 1 rfl rfl rfl rfl ?_
  refine ev_cv 183 0 [.int (fM_thrown M971)] 2949 hk rfl rfl rfl rfl lk_model rfl rfl rfl (rM_thrown rfl) rfl rfl rfl rfl ?_
  refine ev_ls (L' := [some (.retAddr 0), some (.ref 0), some (.ref 247), some (.ref 261), some (.ref 262), some (.int a5), some (.int v968), some (.int v972), u8, none]) (st' := [.int v968, .int (fM_thrown M971)]) (pc' := 2951) hk (.iload 6) 2 rfl rfl rfl rfl ?_
  refine ev_d2 2956 2954 hk rfl rfl rfl rfl (px_ceq hx (fun hc hx => ?_) (fun hc hx => ?_))
  · refine ev_ls (L' := [some (.retAddr 0), some (.ref 0), some (.ref 247), some (.ref 261), some (.ref 262), some (.int a5), some (.int v968), some (.int v972), u8, none]) (st' := [.int v968]) (pc' := 2958) hk (.iload 6) 2 rfl rfl rfl rfl ?_
    refine ev_d1 2973 2961 hk rfl rfl rfl rfl (px_cne hx (fun hc hx => ?_) (fun hc hx => ?_))
    · refine ev_jp (pc' := 3189) (st' := []) hk (.goto 216) 3 rfl rfl rfl rfl rfl ?_
      refine ev_ls (L' := [some (.retAddr 0), some (.ref 0), some (.ref 247), some (.ref 261), some (.ref 262), some (.int (a5 + 6)), some (.int v968), some (.int v972), u8, none]) (st' := []) (pc' := 3192) hk (.iinc 5 6) 3 rfl rfl rfl rfl ?_
      refine ev_jp (pc' := 28) (st' := []) hk (.goto (-3164)) 3 rfl rfl rfl rfl rfl ?_
      cases hx
      exact hM (some (.int v968)) (some (.int v972)) rfl u8
    · refine ev_ls (L' := [some (.retAddr 0), some (.ref 0), some (.ref 247), some (.ref 261), some (.ref 262), some (.int a5), some (.int v968), some (.int v972), u8, none]) (st' := [.ref 261]) (pc' := 2962) hk (.aload_n 3) 1 rfl rfl rfl rfl ?_
      refine ev_op (st' := [.int 0, .ref 261]) (pc' := 2963) hk (.iconst 0) 1 rfl rfl rfl ?_
      refine ev_lal (v := (ou966 0)) rfl 2964 hk rfl lk_ou rfl ?_
      refine ev_ls (L' := [some (.retAddr 0), some (.ref 0), some (.ref 247), some (.ref 261), some (.ref 262), some (.int a5), some (.int v968), some (.int v972), u8, none]) (st' := [.int v972, .long (ou966 0)]) (pc' := 2966) hk (.iload 7) 2 rfl rfl rfl rfl ?_
      refine ev_op (st' := [.long (Int32.toInt64 v972), .long (ou966 0)]) (pc' := 2967) hk (.i2l) 1 rfl rfl rfl ?_
      refine ev_op (st' := [.int (lg_cmp (ou966 0) (Int32.toInt64 v972))]) (pc' := 2968) hk (.lcmp) 1 rfl rfl rfl ?_
      refine ev_d1 2973 2971 hk rfl rfl rfl rfl (px_leq hx (fun hc hx => ?_) (fun hc hx => ?_))
      · refine ev_jp (pc' := 3189) (st' := []) hk (.goto 216) 3 rfl rfl rfl rfl rfl ?_
        refine ev_ls (L' := [some (.retAddr 0), some (.ref 0), some (.ref 247), some (.ref 261), some (.ref 262), some (.int (a5 + 6)), some (.int v968), some (.int v972), u8, none]) (st' := []) (pc' := 3192) hk (.iinc 5 6) 3 rfl rfl rfl rfl ?_
        refine ev_jp (pc' := 28) (st' := []) hk (.goto (-3164)) 3 rfl rfl rfl rfl rfl ?_
        cases hx
        exact hM (some (.int v968)) (some (.int v972)) rfl u8
      · refine ev_op (st' := [.int 0]) (pc' := 2972) hk (.iconst 0) 1 rfl rfl rfl ?_
        cases hx
        obtain rfl := hM
        exact ev_retZ false rfl hk rfl rfl
  · refine ev_op (st' := [.int 0]) (pc' := 2955) hk (.iconst 0) 1 rfl rfl rfl ?_
    cases hx
    obtain rfl := hM
    exact ev_retZ false rfl hk rfl rfl
set_option maxRecDepth 4000 in
theorem rw_law_j2976 {S : Nat} {xs : Nat → Int32} {I : zI} {C : zC} {Y : Nat → Int32} {Γ : Nat → zG} {D : zD} {O : Nat → Int32} {M : zM} {ou : Nat → Int64} {od : Nat → UInt64} {j : Nat} {a5 : Int32} {y : (Option Value ⊕ String) × px_H} {x : (zI × zC × (Nat → Int32) × (Nat → zG) × zD × (Nat → Int32) × zM × (Nat → Int64) × (Nat → UInt64) × Nat × Int32) ⊕ (Bool × zI × zC × (Nat → Int32) × (Nat → zG) × zD × (Nat → Int32) × zM × (Nat → Int64) × (Nat → UInt64) × Nat)}  (hx : fw_law_j2976 S xs I C Y Γ D O M ou od j a5 = some x) (hM : (Sum.elim (qw_law_28 S xs y) (fun X : Bool × zI × zC × (Nat → Int32) × (Nat → zG) × zD × (Nat → Int32) × zM × (Nat → Int64) × (Nat → UInt64) × Nat => y = (((.inl (some (.int (b2i X.1)))), (zH X.2.1 X.2.2.1 X.2.2.2.1 X.2.2.2.2.1 X.2.2.2.2.2.1 X.2.2.2.2.2.2.1 X.2.2.2.2.2.2.2.1 X.2.2.2.2.2.2.2.2.1 X.2.2.2.2.2.2.2.2.2.1 X.2.2.2.2.2.2.2.2.2.2)) : (Option Value ⊕ String) × px_H))) x) (u6 : Option Value) (u7 : Option Value) (hu7 : px_cz u7 = true) (u8 : Option Value) : Ev S xs 412 2976 [some (.retAddr 0), some (.ref 0), some (.ref 247), some (.ref 261), some (.ref 262), some (.int a5), u6, u7, u8, none] [] (zH I C Y Γ D O M ou od j) y := by
  have hk : pt_mt[412]? = some pt_r412 := rfl
  unfold fw_law_j2976 at hx
  refine ev_ls (L' := [some (.retAddr 0), some (.ref 0), some (.ref 247), some (.ref 261), some (.ref 262), some (.int a5), u6, u7, u8, none]) (st' := [.ref 0]) (pc' := 2977) hk (.aload_n 1) 1 rfl rfl rfl rfl ?_
  refine ev_ls (L' := [some (.retAddr 0), some (.ref 0), some (.ref 247), some (.ref 261), some (.ref 262), some (.int a5), u6, u7, u8, none]) (st' := [.ref 261, .ref 0]) (pc' := 2978) hk (.aload_n 3) 1 rfl rfl rfl rfl ?_
  obtain ⟨v978, Y974, Γ975, ou976, j977, hc979, hx⟩ := bnd5_some hx
  refine ev_cs 409 2 [.int v978] 2981 hk rfl rfl (by decide) rfl rfl rfl (rw_undo hc979) rfl rfl rfl rfl ?_
  refine ev_ls (L' := [some (.retAddr 0), some (.ref 0), some (.ref 247), some (.ref 261), some (.ref 262), some (.int a5), some (.int v978), u7, u8, none]) (st' := []) (pc' := 2983) hk (.istore 6) 2 rfl rfl rfl rfl ?_
  refine ev_ls (L' := [some (.retAddr 0), some (.ref 0), some (.ref 247), some (.ref 261), some (.ref 262), some (.int a5), some (.int v978), u7, u8, none]) (st' := [.ref 247]) (pc' := 2984) hk (.aload_n 2) 1 rfl rfl rfl rfl ?_
  obtain ⟨v981, M980, hc982, hx⟩ := bnd2_some hx
  refine ev_cv 190 0 [.int v981] 2987 hk rfl rfl rfl rfl lk_model rfl rfl rfl (rM_undo hc982) rfl rfl rfl rfl ?_
  refine ev_ls (L' := [some (.retAddr 0), some (.ref 0), some (.ref 247), some (.ref 261), some (.ref 262), some (.int a5), some (.int v978), some (.int v981), u8, none]) (st' := []) (pc' := 2989) hk (.istore 7) 2 rfl rfl rfl rfl ?_
  refine ev_ls (L' := [some (.retAddr 0), some (.ref 0), some (.ref 247), some (.ref 261), some (.ref 262), some (.int a5), some (.int v978), some (.int v981), u8, none]) (st' := [.ref 247]) (pc' := 2990) hk (.aload_n 2) 1 rfl rfl rfl rfl ?_
  refine ev_cv 183 0 [.int (fM_thrown M980)] 2993 hk rfl rfl rfl rfl lk_model rfl rfl rfl (rM_thrown rfl) rfl rfl rfl rfl ?_
  refine ev_ls (L' := [some (.retAddr 0), some (.ref 0), some (.ref 247), some (.ref 261), some (.ref 262), some (.int a5), some (.int v978), some (.int v981), u8, none]) (st' := [.int v978, .int (fM_thrown M980)]) (pc' := 2995) hk (.iload 6) 2 rfl rfl rfl rfl ?_
  refine ev_d2 3000 2998 hk rfl rfl rfl rfl (px_ceq hx (fun hc hx => ?_) (fun hc hx => ?_))
  · refine ev_ls (L' := [some (.retAddr 0), some (.ref 0), some (.ref 247), some (.ref 261), some (.ref 262), some (.int a5), some (.int v978), some (.int v981), u8, none]) (st' := [.int v978]) (pc' := 3002) hk (.iload 6) 2 rfl rfl rfl rfl ?_
    refine ev_d1 3017 3005 hk rfl rfl rfl rfl (px_cne hx (fun hc hx => ?_) (fun hc hx => ?_))
    · refine ev_jp (pc' := 3189) (st' := []) hk (.goto 172) 3 rfl rfl rfl rfl rfl ?_
      refine ev_ls (L' := [some (.retAddr 0), some (.ref 0), some (.ref 247), some (.ref 261), some (.ref 262), some (.int (a5 + 6)), some (.int v978), some (.int v981), u8, none]) (st' := []) (pc' := 3192) hk (.iinc 5 6) 3 rfl rfl rfl rfl ?_
      refine ev_jp (pc' := 28) (st' := []) hk (.goto (-3164)) 3 rfl rfl rfl rfl rfl ?_
      cases hx
      exact hM (some (.int v978)) (some (.int v981)) rfl u8
    · refine ev_ls (L' := [some (.retAddr 0), some (.ref 0), some (.ref 247), some (.ref 261), some (.ref 262), some (.int a5), some (.int v978), some (.int v981), u8, none]) (st' := [.ref 261]) (pc' := 3006) hk (.aload_n 3) 1 rfl rfl rfl rfl ?_
      refine ev_op (st' := [.int 0, .ref 261]) (pc' := 3007) hk (.iconst 0) 1 rfl rfl rfl ?_
      refine ev_lal (v := (ou976 0)) rfl 3008 hk rfl lk_ou rfl ?_
      refine ev_ls (L' := [some (.retAddr 0), some (.ref 0), some (.ref 247), some (.ref 261), some (.ref 262), some (.int a5), some (.int v978), some (.int v981), u8, none]) (st' := [.int v981, .long (ou976 0)]) (pc' := 3010) hk (.iload 7) 2 rfl rfl rfl rfl ?_
      refine ev_op (st' := [.long (Int32.toInt64 v981), .long (ou976 0)]) (pc' := 3011) hk (.i2l) 1 rfl rfl rfl ?_
      refine ev_op (st' := [.int (lg_cmp (ou976 0) (Int32.toInt64 v981))]) (pc' := 3012) hk (.lcmp) 1 rfl rfl rfl ?_
      refine ev_d1 3017 3015 hk rfl rfl rfl rfl (px_leq hx (fun hc hx => ?_) (fun hc hx => ?_))
      · refine ev_jp (pc' := 3189) (st' := []) hk (.goto 172) 3 rfl rfl rfl rfl rfl ?_
        refine ev_ls (L' := [some (.retAddr 0), some (.ref 0), some (.ref 247), some (.ref 261), some (.ref 262), some (.int (a5 + 6)), some (.int v978), some (.int v981), u8, none]) (st' := []) (pc' := 3192) hk (.iinc 5 6) 3 rfl rfl rfl rfl ?_
        refine ev_jp (pc' := 28) (st' := []) hk (.goto (-3164)) 3 rfl rfl rfl rfl rfl ?_
        cases hx
        exact hM (some (.int v978)) (some (.int v981)) rfl u8
      · refine ev_op (st' := [.int 0]) (pc' := 3016) hk (.iconst 0) 1 rfl rfl rfl ?_
        cases hx
        obtain rfl := hM
        exact ev_retZ false rfl hk rfl rfl
  · refine ev_op (st' := [.int 0]) (pc' := 2999) hk (.iconst 0) 1 rfl rfl rfl ?_
    cases hx
    obtain rfl := hM
    exact ev_retZ false rfl hk rfl rfl
set_option maxRecDepth 4000 in
theorem rw_law_j3020 {S : Nat} {xs : Nat → Int32} {I : zI} {C : zC} {Y : Nat → Int32} {Γ : Nat → zG} {D : zD} {O : Nat → Int32} {M : zM} {ou : Nat → Int64} {od : Nat → UInt64} {j : Nat} {a5 : Int32} {y : (Option Value ⊕ String) × px_H} {x : (zI × zC × (Nat → Int32) × (Nat → zG) × zD × (Nat → Int32) × zM × (Nat → Int64) × (Nat → UInt64) × Nat × Int32) ⊕ (Bool × zI × zC × (Nat → Int32) × (Nat → zG) × zD × (Nat → Int32) × zM × (Nat → Int64) × (Nat → UInt64) × Nat)}  (hx : fw_law_j3020 S xs I C Y Γ D O M ou od j a5 = some x) (hM : (Sum.elim (qw_law_28 S xs y) (fun X : Bool × zI × zC × (Nat → Int32) × (Nat → zG) × zD × (Nat → Int32) × zM × (Nat → Int64) × (Nat → UInt64) × Nat => y = (((.inl (some (.int (b2i X.1)))), (zH X.2.1 X.2.2.1 X.2.2.2.1 X.2.2.2.2.1 X.2.2.2.2.2.1 X.2.2.2.2.2.2.1 X.2.2.2.2.2.2.2.1 X.2.2.2.2.2.2.2.2.1 X.2.2.2.2.2.2.2.2.2.1 X.2.2.2.2.2.2.2.2.2.2)) : (Option Value ⊕ String) × px_H))) x) (u6 : Option Value) (u7 : Option Value) (hu7 : px_cz u7 = true) (u8 : Option Value) : Ev S xs 412 3020 [some (.retAddr 0), some (.ref 0), some (.ref 247), some (.ref 261), some (.ref 262), some (.int a5), u6, u7, u8, none] [] (zH I C Y Γ D O M ou od j) y := by
  have hk : pt_mt[412]? = some pt_r412 := rfl
  unfold fw_law_j3020 at hx
  refine ev_ls (L' := [some (.retAddr 0), some (.ref 0), some (.ref 247), some (.ref 261), some (.ref 262), some (.int a5), u6, u7, u8, none]) (st' := [.ref 0]) (pc' := 3021) hk (.aload_n 1) 1 rfl rfl rfl rfl ?_
  refine ev_ls (L' := [some (.retAddr 0), some (.ref 0), some (.ref 247), some (.ref 261), some (.ref 262), some (.int a5), u6, u7, u8, none]) (st' := [.retAddr 0, .ref 0]) (pc' := 3022) hk (.aload_n 0) 1 rfl rfl rfl rfl ?_
  refine ev_ls (L' := [some (.retAddr 0), some (.ref 0), some (.ref 247), some (.ref 261), some (.ref 262), some (.int a5), u6, u7, u8, none]) (st' := [.int a5, .retAddr 0, .ref 0]) (pc' := 3024) hk (.iload 5) 2 rfl rfl rfl rfl ?_
  refine ev_op (st' := [.int 1, .int a5, .retAddr 0, .ref 0]) (pc' := 3025) hk (.iconst 1) 1 rfl rfl rfl ?_
  refine ev_op (st' := [.int (a5 + 1), .retAddr 0, .ref 0]) (pc' := 3026) hk (.iadd) 1 rfl rfl rfl ?_
  obtain ⟨v983, hv983, hx⟩ := bnd_some hx
  refine ev_sal hv983 3027 hk rfl rfl ?_
  refine ev_ls (L' := [some (.retAddr 0), some (.ref 0), some (.ref 247), some (.ref 261), some (.ref 262), some (.int a5), u6, u7, u8, none]) (st' := [.ref 261, .int v983, .ref 0]) (pc' := 3028) hk (.aload_n 3) 1 rfl rfl rfl rfl ?_
  obtain ⟨v988, D984, O985, ou986, j987, hc989, hx⟩ := bnd5_some hx
  refine ev_cs 398 3 [.int v988] 3031 hk rfl rfl (by decide) rfl rfl rfl (rw_printBand hc989) rfl rfl rfl rfl ?_
  refine ev_ls (L' := [some (.retAddr 0), some (.ref 0), some (.ref 247), some (.ref 261), some (.ref 262), some (.int a5), some (.int v988), u7, u8, none]) (st' := []) (pc' := 3033) hk (.istore 6) 2 rfl rfl rfl rfl ?_
  refine ev_ls (L' := [some (.retAddr 0), some (.ref 0), some (.ref 247), some (.ref 261), some (.ref 262), some (.int a5), some (.int v988), u7, u8, none]) (st' := [.ref 247]) (pc' := 3034) hk (.aload_n 2) 1 rfl rfl rfl rfl ?_
  refine ev_ls (L' := [some (.retAddr 0), some (.ref 0), some (.ref 247), some (.ref 261), some (.ref 262), some (.int a5), some (.int v988), u7, u8, none]) (st' := [.retAddr 0, .ref 247]) (pc' := 3035) hk (.aload_n 0) 1 rfl rfl rfl rfl ?_
  refine ev_ls (L' := [some (.retAddr 0), some (.ref 0), some (.ref 247), some (.ref 261), some (.ref 262), some (.int a5), some (.int v988), u7, u8, none]) (st' := [.int a5, .retAddr 0, .ref 247]) (pc' := 3037) hk (.iload 5) 2 rfl rfl rfl rfl ?_
  refine ev_op (st' := [.int 1, .int a5, .retAddr 0, .ref 247]) (pc' := 3038) hk (.iconst 1) 1 rfl rfl rfl ?_
  refine ev_op (st' := [.int (a5 + 1), .retAddr 0, .ref 247]) (pc' := 3039) hk (.iadd) 1 rfl rfl rfl ?_
  obtain ⟨v990, hv990, hx⟩ := bnd_some hx
  refine ev_sal hv990 3040 hk rfl rfl ?_
  obtain ⟨v992, M991, hc993, hx⟩ := bnd2_some hx
  refine ev_cv 151 1 [.int v992] 3043 hk rfl rfl rfl rfl lk_model rfl rfl rfl (rM_printBand hc993) rfl rfl rfl rfl ?_
  refine ev_ls (L' := [some (.retAddr 0), some (.ref 0), some (.ref 247), some (.ref 261), some (.ref 262), some (.int a5), some (.int v988), some (.int v992), u8, none]) (st' := []) (pc' := 3045) hk (.istore 7) 2 rfl rfl rfl rfl ?_
  refine ev_ls (L' := [some (.retAddr 0), some (.ref 0), some (.ref 247), some (.ref 261), some (.ref 262), some (.int a5), some (.int v988), some (.int v992), u8, none]) (st' := [.ref 247]) (pc' := 3046) hk (.aload_n 2) 1 rfl rfl rfl rfl ?_
  refine ev_cv 183 0 [.int (fM_thrown M991)] 3049 hk rfl rfl rfl rfl lk_model rfl rfl rfl (rM_thrown rfl) rfl rfl rfl rfl ?_
  refine ev_ls (L' := [some (.retAddr 0), some (.ref 0), some (.ref 247), some (.ref 261), some (.ref 262), some (.int a5), some (.int v988), some (.int v992), u8, none]) (st' := [.int v988, .int (fM_thrown M991)]) (pc' := 3051) hk (.iload 6) 2 rfl rfl rfl rfl ?_
  refine ev_d2 3056 3054 hk rfl rfl rfl rfl (px_ceq hx (fun hc hx => ?_) (fun hc hx => ?_))
  · refine ev_ls (L' := [some (.retAddr 0), some (.ref 0), some (.ref 247), some (.ref 261), some (.ref 262), some (.int a5), some (.int v988), some (.int v992), u8, none]) (st' := [.int v988]) (pc' := 3058) hk (.iload 6) 2 rfl rfl rfl rfl ?_
    refine ev_d1 3073 3061 hk rfl rfl rfl rfl (px_cne hx (fun hc hx => ?_) (fun hc hx => ?_))
    · refine ev_jp (pc' := 3189) (st' := []) hk (.goto 116) 3 rfl rfl rfl rfl rfl ?_
      refine ev_ls (L' := [some (.retAddr 0), some (.ref 0), some (.ref 247), some (.ref 261), some (.ref 262), some (.int (a5 + 6)), some (.int v988), some (.int v992), u8, none]) (st' := []) (pc' := 3192) hk (.iinc 5 6) 3 rfl rfl rfl rfl ?_
      refine ev_jp (pc' := 28) (st' := []) hk (.goto (-3164)) 3 rfl rfl rfl rfl rfl ?_
      cases hx
      exact hM (some (.int v988)) (some (.int v992)) rfl u8
    · refine ev_ls (L' := [some (.retAddr 0), some (.ref 0), some (.ref 247), some (.ref 261), some (.ref 262), some (.int a5), some (.int v988), some (.int v992), u8, none]) (st' := [.ref 261]) (pc' := 3062) hk (.aload_n 3) 1 rfl rfl rfl rfl ?_
      refine ev_op (st' := [.int 0, .ref 261]) (pc' := 3063) hk (.iconst 0) 1 rfl rfl rfl ?_
      refine ev_lal (v := (ou986 0)) rfl 3064 hk rfl lk_ou rfl ?_
      refine ev_ls (L' := [some (.retAddr 0), some (.ref 0), some (.ref 247), some (.ref 261), some (.ref 262), some (.int a5), some (.int v988), some (.int v992), u8, none]) (st' := [.int v992, .long (ou986 0)]) (pc' := 3066) hk (.iload 7) 2 rfl rfl rfl rfl ?_
      refine ev_op (st' := [.long (Int32.toInt64 v992), .long (ou986 0)]) (pc' := 3067) hk (.i2l) 1 rfl rfl rfl ?_
      refine ev_op (st' := [.int (lg_cmp (ou986 0) (Int32.toInt64 v992))]) (pc' := 3068) hk (.lcmp) 1 rfl rfl rfl ?_
      refine ev_d1 3073 3071 hk rfl rfl rfl rfl (px_leq hx (fun hc hx => ?_) (fun hc hx => ?_))
      · refine ev_jp (pc' := 3189) (st' := []) hk (.goto 116) 3 rfl rfl rfl rfl rfl ?_
        refine ev_ls (L' := [some (.retAddr 0), some (.ref 0), some (.ref 247), some (.ref 261), some (.ref 262), some (.int (a5 + 6)), some (.int v988), some (.int v992), u8, none]) (st' := []) (pc' := 3192) hk (.iinc 5 6) 3 rfl rfl rfl rfl ?_
        refine ev_jp (pc' := 28) (st' := []) hk (.goto (-3164)) 3 rfl rfl rfl rfl rfl ?_
        cases hx
        exact hM (some (.int v988)) (some (.int v992)) rfl u8
      · refine ev_op (st' := [.int 0]) (pc' := 3072) hk (.iconst 0) 1 rfl rfl rfl ?_
        cases hx
        obtain rfl := hM
        exact ev_retZ false rfl hk rfl rfl
  · refine ev_op (st' := [.int 0]) (pc' := 3055) hk (.iconst 0) 1 rfl rfl rfl ?_
    cases hx
    obtain rfl := hM
    exact ev_retZ false rfl hk rfl rfl
set_option maxRecDepth 4000 in
theorem rw_law_j3076 {S : Nat} {xs : Nat → Int32} {I : zI} {C : zC} {Y : Nat → Int32} {Γ : Nat → zG} {D : zD} {O : Nat → Int32} {M : zM} {ou : Nat → Int64} {od : Nat → UInt64} {j : Nat} {a5 : Int32} {y : (Option Value ⊕ String) × px_H} {x : (zI × zC × (Nat → Int32) × (Nat → zG) × zD × (Nat → Int32) × zM × (Nat → Int64) × (Nat → UInt64) × Nat × Int32) ⊕ (Bool × zI × zC × (Nat → Int32) × (Nat → zG) × zD × (Nat → Int32) × zM × (Nat → Int64) × (Nat → UInt64) × Nat)}  (hx : fw_law_j3076 S xs I C Y Γ D O M ou od j a5 = some x) (hM : (Sum.elim (qw_law_28 S xs y) (fun X : Bool × zI × zC × (Nat → Int32) × (Nat → zG) × zD × (Nat → Int32) × zM × (Nat → Int64) × (Nat → UInt64) × Nat => y = (((.inl (some (.int (b2i X.1)))), (zH X.2.1 X.2.2.1 X.2.2.2.1 X.2.2.2.2.1 X.2.2.2.2.2.1 X.2.2.2.2.2.2.1 X.2.2.2.2.2.2.2.1 X.2.2.2.2.2.2.2.2.1 X.2.2.2.2.2.2.2.2.2.1 X.2.2.2.2.2.2.2.2.2.2)) : (Option Value ⊕ String) × px_H))) x) (u6 : Option Value) (u7 : Option Value) (hu7 : px_cz u7 = true) (u8 : Option Value) : Ev S xs 412 3076 [some (.retAddr 0), some (.ref 0), some (.ref 247), some (.ref 261), some (.ref 262), some (.int a5), u6, u7, u8, none] [] (zH I C Y Γ D O M ou od j) y := by
  have hk : pt_mt[412]? = some pt_r412 := rfl
  unfold fw_law_j3076 at hx
  refine ev_ls (L' := [some (.retAddr 0), some (.ref 0), some (.ref 247), some (.ref 261), some (.ref 262), some (.int a5), u6, u7, u8, none]) (st' := [.ref 0]) (pc' := 3077) hk (.aload_n 1) 1 rfl rfl rfl rfl ?_
  refine ev_ls (L' := [some (.retAddr 0), some (.ref 0), some (.ref 247), some (.ref 261), some (.ref 262), some (.int a5), u6, u7, u8, none]) (st' := [.retAddr 0, .ref 0]) (pc' := 3078) hk (.aload_n 0) 1 rfl rfl rfl rfl ?_
  refine ev_ls (L' := [some (.retAddr 0), some (.ref 0), some (.ref 247), some (.ref 261), some (.ref 262), some (.int a5), u6, u7, u8, none]) (st' := [.int a5, .retAddr 0, .ref 0]) (pc' := 3080) hk (.iload 5) 2 rfl rfl rfl rfl ?_
  refine ev_op (st' := [.int 1, .int a5, .retAddr 0, .ref 0]) (pc' := 3081) hk (.iconst 1) 1 rfl rfl rfl ?_
  refine ev_op (st' := [.int (a5 + 1), .retAddr 0, .ref 0]) (pc' := 3082) hk (.iadd) 1 rfl rfl rfl ?_
  obtain ⟨v994, hv994, hx⟩ := bnd_some hx
  refine ev_sal hv994 3083 hk rfl rfl ?_
  refine ev_ls (L' := [some (.retAddr 0), some (.ref 0), some (.ref 247), some (.ref 261), some (.ref 262), some (.int a5), u6, u7, u8, none]) (st' := [.ref 261, .int v994, .ref 0]) (pc' := 3084) hk (.aload_n 3) 1 rfl rfl rfl rfl ?_
  obtain ⟨v997, ou995, j996, hc998, hx⟩ := bnd3_some hx
  refine ev_cs 396 3 [.int v997] 3087 hk rfl rfl (by decide) rfl rfl rfl (rw_outputByte hc998) rfl rfl rfl rfl ?_
  refine ev_ls (L' := [some (.retAddr 0), some (.ref 0), some (.ref 247), some (.ref 261), some (.ref 262), some (.int a5), some (.int v997), u7, u8, none]) (st' := []) (pc' := 3089) hk (.istore 6) 2 rfl rfl rfl rfl ?_
  refine ev_ls (L' := [some (.retAddr 0), some (.ref 0), some (.ref 247), some (.ref 261), some (.ref 262), some (.int a5), some (.int v997), u7, u8, none]) (st' := [.ref 247]) (pc' := 3090) hk (.aload_n 2) 1 rfl rfl rfl rfl ?_
  refine ev_ls (L' := [some (.retAddr 0), some (.ref 0), some (.ref 247), some (.ref 261), some (.ref 262), some (.int a5), some (.int v997), u7, u8, none]) (st' := [.retAddr 0, .ref 247]) (pc' := 3091) hk (.aload_n 0) 1 rfl rfl rfl rfl ?_
  refine ev_ls (L' := [some (.retAddr 0), some (.ref 0), some (.ref 247), some (.ref 261), some (.ref 262), some (.int a5), some (.int v997), u7, u8, none]) (st' := [.int a5, .retAddr 0, .ref 247]) (pc' := 3093) hk (.iload 5) 2 rfl rfl rfl rfl ?_
  refine ev_op (st' := [.int 1, .int a5, .retAddr 0, .ref 247]) (pc' := 3094) hk (.iconst 1) 1 rfl rfl rfl ?_
  refine ev_op (st' := [.int (a5 + 1), .retAddr 0, .ref 247]) (pc' := 3095) hk (.iadd) 1 rfl rfl rfl ?_
  obtain ⟨v999, hv999, hx⟩ := bnd_some hx
  refine ev_sal hv999 3096 hk rfl rfl ?_
  obtain ⟨v1001, M1000, hc1002, hx⟩ := bnd2_some hx
  refine ev_cv 146 1 [.int v1001] 3099 hk rfl rfl rfl rfl lk_model rfl rfl rfl (rM_outputByte hc1002) rfl rfl rfl rfl ?_
  refine ev_ls (L' := [some (.retAddr 0), some (.ref 0), some (.ref 247), some (.ref 261), some (.ref 262), some (.int a5), some (.int v997), some (.int v1001), u8, none]) (st' := []) (pc' := 3101) hk (.istore 7) 2 rfl rfl rfl rfl ?_
  refine ev_ls (L' := [some (.retAddr 0), some (.ref 0), some (.ref 247), some (.ref 261), some (.ref 262), some (.int a5), some (.int v997), some (.int v1001), u8, none]) (st' := [.ref 247]) (pc' := 3102) hk (.aload_n 2) 1 rfl rfl rfl rfl ?_
  refine ev_cv 183 0 [.int (fM_thrown M1000)] 3105 hk rfl rfl rfl rfl lk_model rfl rfl rfl (rM_thrown rfl) rfl rfl rfl rfl ?_
  refine ev_ls (L' := [some (.retAddr 0), some (.ref 0), some (.ref 247), some (.ref 261), some (.ref 262), some (.int a5), some (.int v997), some (.int v1001), u8, none]) (st' := [.int v997, .int (fM_thrown M1000)]) (pc' := 3107) hk (.iload 6) 2 rfl rfl rfl rfl ?_
  refine ev_d2 3112 3110 hk rfl rfl rfl rfl (px_ceq hx (fun hc hx => ?_) (fun hc hx => ?_))
  · refine ev_ls (L' := [some (.retAddr 0), some (.ref 0), some (.ref 247), some (.ref 261), some (.ref 262), some (.int a5), some (.int v997), some (.int v1001), u8, none]) (st' := [.int v997]) (pc' := 3114) hk (.iload 6) 2 rfl rfl rfl rfl ?_
    refine ev_d1 3129 3117 hk rfl rfl rfl rfl (px_cne hx (fun hc hx => ?_) (fun hc hx => ?_))
    · refine ev_jp (pc' := 3189) (st' := []) hk (.goto 60) 3 rfl rfl rfl rfl rfl ?_
      refine ev_ls (L' := [some (.retAddr 0), some (.ref 0), some (.ref 247), some (.ref 261), some (.ref 262), some (.int (a5 + 6)), some (.int v997), some (.int v1001), u8, none]) (st' := []) (pc' := 3192) hk (.iinc 5 6) 3 rfl rfl rfl rfl ?_
      refine ev_jp (pc' := 28) (st' := []) hk (.goto (-3164)) 3 rfl rfl rfl rfl rfl ?_
      cases hx
      exact hM (some (.int v997)) (some (.int v1001)) rfl u8
    · refine ev_ls (L' := [some (.retAddr 0), some (.ref 0), some (.ref 247), some (.ref 261), some (.ref 262), some (.int a5), some (.int v997), some (.int v1001), u8, none]) (st' := [.ref 261]) (pc' := 3118) hk (.aload_n 3) 1 rfl rfl rfl rfl ?_
      refine ev_op (st' := [.int 0, .ref 261]) (pc' := 3119) hk (.iconst 0) 1 rfl rfl rfl ?_
      refine ev_lal (v := (ou995 0)) rfl 3120 hk rfl lk_ou rfl ?_
      refine ev_ls (L' := [some (.retAddr 0), some (.ref 0), some (.ref 247), some (.ref 261), some (.ref 262), some (.int a5), some (.int v997), some (.int v1001), u8, none]) (st' := [.int v1001, .long (ou995 0)]) (pc' := 3122) hk (.iload 7) 2 rfl rfl rfl rfl ?_
      refine ev_op (st' := [.long (Int32.toInt64 v1001), .long (ou995 0)]) (pc' := 3123) hk (.i2l) 1 rfl rfl rfl ?_
      refine ev_op (st' := [.int (lg_cmp (ou995 0) (Int32.toInt64 v1001))]) (pc' := 3124) hk (.lcmp) 1 rfl rfl rfl ?_
      refine ev_d1 3129 3127 hk rfl rfl rfl rfl (px_leq hx (fun hc hx => ?_) (fun hc hx => ?_))
      · refine ev_jp (pc' := 3189) (st' := []) hk (.goto 60) 3 rfl rfl rfl rfl rfl ?_
        refine ev_ls (L' := [some (.retAddr 0), some (.ref 0), some (.ref 247), some (.ref 261), some (.ref 262), some (.int (a5 + 6)), some (.int v997), some (.int v1001), u8, none]) (st' := []) (pc' := 3192) hk (.iinc 5 6) 3 rfl rfl rfl rfl ?_
        refine ev_jp (pc' := 28) (st' := []) hk (.goto (-3164)) 3 rfl rfl rfl rfl rfl ?_
        cases hx
        exact hM (some (.int v997)) (some (.int v1001)) rfl u8
      · refine ev_op (st' := [.int 0]) (pc' := 3128) hk (.iconst 0) 1 rfl rfl rfl ?_
        cases hx
        obtain rfl := hM
        exact ev_retZ false rfl hk rfl rfl
  · refine ev_op (st' := [.int 0]) (pc' := 3111) hk (.iconst 0) 1 rfl rfl rfl ?_
    cases hx
    obtain rfl := hM
    exact ev_retZ false rfl hk rfl rfl
set_option maxRecDepth 4000 in
theorem rw_law_j3132 {S : Nat} {xs : Nat → Int32} {I : zI} {C : zC} {Y : Nat → Int32} {Γ : Nat → zG} {D : zD} {O : Nat → Int32} {M : zM} {ou : Nat → Int64} {od : Nat → UInt64} {j : Nat} {a5 : Int32} {y : (Option Value ⊕ String) × px_H} {x : (zI × zC × (Nat → Int32) × (Nat → zG) × zD × (Nat → Int32) × zM × (Nat → Int64) × (Nat → UInt64) × Nat × Int32) ⊕ (Bool × zI × zC × (Nat → Int32) × (Nat → zG) × zD × (Nat → Int32) × zM × (Nat → Int64) × (Nat → UInt64) × Nat)}  (hx : fw_law_j3132 S xs I C Y Γ D O M ou od j a5 = some x) (hM : (Sum.elim (qw_law_28 S xs y) (fun X : Bool × zI × zC × (Nat → Int32) × (Nat → zG) × zD × (Nat → Int32) × zM × (Nat → Int64) × (Nat → UInt64) × Nat => y = (((.inl (some (.int (b2i X.1)))), (zH X.2.1 X.2.2.1 X.2.2.2.1 X.2.2.2.2.1 X.2.2.2.2.2.1 X.2.2.2.2.2.2.1 X.2.2.2.2.2.2.2.1 X.2.2.2.2.2.2.2.2.1 X.2.2.2.2.2.2.2.2.2.1 X.2.2.2.2.2.2.2.2.2.2)) : (Option Value ⊕ String) × px_H))) x) (u6 : Option Value) (u7 : Option Value) (hu7 : px_cz u7 = true) (u8 : Option Value) : Ev S xs 412 3132 [some (.retAddr 0), some (.ref 0), some (.ref 247), some (.ref 261), some (.ref 262), some (.int a5), u6, u7, u8, none] [] (zH I C Y Γ D O M ou od j) y := by
  have hk : pt_mt[412]? = some pt_r412 := rfl
  unfold fw_law_j3132 at hx
  refine ev_ls (L' := [some (.retAddr 0), some (.ref 0), some (.ref 247), some (.ref 261), some (.ref 262), some (.int a5), u6, u7, u8, none]) (st' := [.ref 0]) (pc' := 3133) hk (.aload_n 1) 1 rfl rfl rfl rfl ?_
  obtain ⟨v1005, Γ1003, D1004, hc1006, hx⟩ := bnd3_some hx
  refine ev_cv 354 0 [.int v1005] 3136 hk rfl rfl rfl rfl lk_dh rfl rfl rfl (rX_saveState hc1006) rfl rfl rfl rfl ?_
  refine ev_ls (L' := [some (.retAddr 0), some (.ref 0), some (.ref 247), some (.ref 261), some (.ref 262), some (.int a5), u6, u7, u8, none]) (st' := [.ref 247, .int v1005]) (pc' := 3137) hk (.aload_n 2) 1 rfl rfl rfl rfl ?_
  obtain ⟨v1008, M1007, hc1009, hx⟩ := bnd2_some hx
  refine ev_cv 160 0 [.int v1008, .int v1005] 3140 hk rfl rfl rfl rfl lk_model rfl rfl rfl (rM_saveState hc1009) rfl rfl rfl rfl ?_
  refine ev_d2 3189 3143 hk rfl rfl rfl rfl (px_ceq hx (fun hc hx => ?_) (fun hc hx => ?_))
  · refine ev_ls (L' := [some (.retAddr 0), some (.ref 0), some (.ref 247), some (.ref 261), some (.ref 262), some (.int (a5 + 6)), u6, u7, u8, none]) (st' := []) (pc' := 3192) hk (.iinc 5 6) 3 rfl rfl rfl rfl ?_
    refine ev_jp (pc' := 28) (st' := []) hk (.goto (-3164)) 3 rfl rfl rfl rfl rfl ?_
    cases hx
    exact hM u6 u7 hu7 u8
  · refine ev_op (st' := [.int 0]) (pc' := 3144) hk (.iconst 0) 1 rfl rfl rfl ?_
    cases hx
    obtain rfl := hM
    exact ev_retZ false rfl hk rfl rfl
set_option maxRecDepth 4000 in
theorem rw_law_j3145 {S : Nat} {xs : Nat → Int32} {I : zI} {C : zC} {Y : Nat → Int32} {Γ : Nat → zG} {D : zD} {O : Nat → Int32} {M : zM} {ou : Nat → Int64} {od : Nat → UInt64} {j : Nat} {a5 : Int32} {y : (Option Value ⊕ String) × px_H} {x : (zI × zC × (Nat → Int32) × (Nat → zG) × zD × (Nat → Int32) × zM × (Nat → Int64) × (Nat → UInt64) × Nat × Int32) ⊕ (Bool × zI × zC × (Nat → Int32) × (Nat → zG) × zD × (Nat → Int32) × zM × (Nat → Int64) × (Nat → UInt64) × Nat)}  (hx : fw_law_j3145 S xs I C Y Γ D O M ou od j a5 = some x) (hM : (Sum.elim (qw_law_28 S xs y) (fun X : Bool × zI × zC × (Nat → Int32) × (Nat → zG) × zD × (Nat → Int32) × zM × (Nat → Int64) × (Nat → UInt64) × Nat => y = (((.inl (some (.int (b2i X.1)))), (zH X.2.1 X.2.2.1 X.2.2.2.1 X.2.2.2.2.1 X.2.2.2.2.2.1 X.2.2.2.2.2.2.1 X.2.2.2.2.2.2.2.1 X.2.2.2.2.2.2.2.2.1 X.2.2.2.2.2.2.2.2.2.1 X.2.2.2.2.2.2.2.2.2.2)) : (Option Value ⊕ String) × px_H))) x) (u6 : Option Value) (u7 : Option Value) (hu7 : px_cz u7 = true) (u8 : Option Value) : Ev S xs 412 3145 [some (.retAddr 0), some (.ref 0), some (.ref 247), some (.ref 261), some (.ref 262), some (.int a5), u6, u7, u8, none] [] (zH I C Y Γ D O M ou od j) y := by
  have hk : pt_mt[412]? = some pt_r412 := rfl
  unfold fw_law_j3145 at hx
  refine ev_ls (L' := [some (.retAddr 0), some (.ref 0), some (.ref 247), some (.ref 261), some (.ref 262), some (.int a5), u6, u7, u8, none]) (st' := [.ref 0]) (pc' := 3146) hk (.aload_n 1) 1 rfl rfl rfl rfl ?_
  refine ev_ls (L' := [some (.retAddr 0), some (.ref 0), some (.ref 247), some (.ref 261), some (.ref 262), some (.int a5), u6, u7, u8, none]) (st' := [.ref 261, .ref 0]) (pc' := 3147) hk (.aload_n 3) 1 rfl rfl rfl rfl ?_
  obtain ⟨v1014, Y1010, Γ1011, ou1012, j1013, hc1015, hx⟩ := bnd5_some hx
  refine ev_cs 400 2 [.int v1014] 3150 hk rfl rfl (by decide) rfl rfl rfl (rw_restoreState hc1015) rfl rfl rfl rfl ?_
  refine ev_ls (L' := [some (.retAddr 0), some (.ref 0), some (.ref 247), some (.ref 261), some (.ref 262), some (.int a5), some (.int v1014), u7, u8, none]) (st' := []) (pc' := 3152) hk (.istore 6) 2 rfl rfl rfl rfl ?_
  refine ev_ls (L' := [some (.retAddr 0), some (.ref 0), some (.ref 247), some (.ref 261), some (.ref 262), some (.int a5), some (.int v1014), u7, u8, none]) (st' := [.ref 247]) (pc' := 3153) hk (.aload_n 2) 1 rfl rfl rfl rfl ?_
  obtain ⟨v1017, M1016, hc1018, hx⟩ := bnd2_some hx
  refine ev_cv 155 0 [.int v1017] 3156 hk rfl rfl rfl rfl lk_model rfl rfl rfl (rM_restoreState hc1018) rfl rfl rfl rfl ?_
  refine ev_ls (L' := [some (.retAddr 0), some (.ref 0), some (.ref 247), some (.ref 261), some (.ref 262), some (.int a5), some (.int v1014), some (.int v1017), u8, none]) (st' := []) (pc' := 3158) hk (.istore 7) 2 rfl rfl rfl rfl ?_
  refine ev_ls (L' := [some (.retAddr 0), some (.ref 0), some (.ref 247), some (.ref 261), some (.ref 262), some (.int a5), some (.int v1014), some (.int v1017), u8, none]) (st' := [.ref 247]) (pc' := 3159) hk (.aload_n 2) 1 rfl rfl rfl rfl ?_
  refine ev_cv 183 0 [.int (fM_thrown M1016)] 3162 hk rfl rfl rfl rfl lk_model rfl rfl rfl (rM_thrown rfl) rfl rfl rfl rfl ?_
  refine ev_ls (L' := [some (.retAddr 0), some (.ref 0), some (.ref 247), some (.ref 261), some (.ref 262), some (.int a5), some (.int v1014), some (.int v1017), u8, none]) (st' := [.int v1014, .int (fM_thrown M1016)]) (pc' := 3164) hk (.iload 6) 2 rfl rfl rfl rfl ?_
  refine ev_d2 3169 3167 hk rfl rfl rfl rfl (px_ceq hx (fun hc hx => ?_) (fun hc hx => ?_))
  · refine ev_ls (L' := [some (.retAddr 0), some (.ref 0), some (.ref 247), some (.ref 261), some (.ref 262), some (.int a5), some (.int v1014), some (.int v1017), u8, none]) (st' := [.int v1014]) (pc' := 3171) hk (.iload 6) 2 rfl rfl rfl rfl ?_
    refine ev_d1 3186 3174 hk rfl rfl rfl rfl (px_cne hx (fun hc hx => ?_) (fun hc hx => ?_))
    · refine ev_jp (pc' := 3189) (st' := []) hk (.goto 3) 3 rfl rfl rfl rfl rfl ?_
      refine ev_ls (L' := [some (.retAddr 0), some (.ref 0), some (.ref 247), some (.ref 261), some (.ref 262), some (.int (a5 + 6)), some (.int v1014), some (.int v1017), u8, none]) (st' := []) (pc' := 3192) hk (.iinc 5 6) 3 rfl rfl rfl rfl ?_
      refine ev_jp (pc' := 28) (st' := []) hk (.goto (-3164)) 3 rfl rfl rfl rfl rfl ?_
      cases hx
      exact hM (some (.int v1014)) (some (.int v1017)) rfl u8
    · refine ev_ls (L' := [some (.retAddr 0), some (.ref 0), some (.ref 247), some (.ref 261), some (.ref 262), some (.int a5), some (.int v1014), some (.int v1017), u8, none]) (st' := [.ref 261]) (pc' := 3175) hk (.aload_n 3) 1 rfl rfl rfl rfl ?_
      refine ev_op (st' := [.int 0, .ref 261]) (pc' := 3176) hk (.iconst 0) 1 rfl rfl rfl ?_
      refine ev_lal (v := (ou1012 0)) rfl 3177 hk rfl lk_ou rfl ?_
      refine ev_ls (L' := [some (.retAddr 0), some (.ref 0), some (.ref 247), some (.ref 261), some (.ref 262), some (.int a5), some (.int v1014), some (.int v1017), u8, none]) (st' := [.int v1017, .long (ou1012 0)]) (pc' := 3179) hk (.iload 7) 2 rfl rfl rfl rfl ?_
      refine ev_op (st' := [.long (Int32.toInt64 v1017), .long (ou1012 0)]) (pc' := 3180) hk (.i2l) 1 rfl rfl rfl ?_
      refine ev_op (st' := [.int (lg_cmp (ou1012 0) (Int32.toInt64 v1017))]) (pc' := 3181) hk (.lcmp) 1 rfl rfl rfl ?_
      refine ev_d1 3186 3184 hk rfl rfl rfl rfl (px_leq hx (fun hc hx => ?_) (fun hc hx => ?_))
      · refine ev_jp (pc' := 3189) (st' := []) hk (.goto 3) 3 rfl rfl rfl rfl rfl ?_
        refine ev_ls (L' := [some (.retAddr 0), some (.ref 0), some (.ref 247), some (.ref 261), some (.ref 262), some (.int (a5 + 6)), some (.int v1014), some (.int v1017), u8, none]) (st' := []) (pc' := 3192) hk (.iinc 5 6) 3 rfl rfl rfl rfl ?_
        refine ev_jp (pc' := 28) (st' := []) hk (.goto (-3164)) 3 rfl rfl rfl rfl rfl ?_
        cases hx
        exact hM (some (.int v1014)) (some (.int v1017)) rfl u8
      · refine ev_op (st' := [.int 0]) (pc' := 3185) hk (.iconst 0) 1 rfl rfl rfl ?_
        cases hx
        obtain rfl := hM
        exact ev_retZ false rfl hk rfl rfl
  · refine ev_op (st' := [.int 0]) (pc' := 3168) hk (.iconst 0) 1 rfl rfl rfl ?_
    cases hx
    obtain rfl := hM
    exact ev_retZ false rfl hk rfl rfl
set_option maxRecDepth 4000 in
theorem rw_law_b28 {S : Nat} {xs : Nat → Int32}  {y : (Option Value ⊕ String) × px_H} {s : zI × zC × (Nat → Int32) × (Nat → zG) × zD × (Nat → Int32) × zM × (Nat → Int64) × (Nat → UInt64) × Nat × Int32} {x : (zI × zC × (Nat → Int32) × (Nat → zG) × zD × (Nat → Int32) × zM × (Nat → Int64) × (Nat → UInt64) × Nat × Int32) ⊕ (Bool × zI × zC × (Nat → Int32) × (Nat → zG) × zD × (Nat → Int32) × zM × (Nat → Int64) × (Nat → UInt64) × Nat)}  (hx : fw_law_b28 S xs s.1 s.2.1 s.2.2.1 s.2.2.2.1 s.2.2.2.2.1 s.2.2.2.2.2.1 s.2.2.2.2.2.2.1 s.2.2.2.2.2.2.2.1 s.2.2.2.2.2.2.2.2.1 s.2.2.2.2.2.2.2.2.2.1 s.2.2.2.2.2.2.2.2.2.2 = some x) (hM : (Sum.elim (qw_law_28 S xs y) (fun X : Bool × zI × zC × (Nat → Int32) × (Nat → zG) × zD × (Nat → Int32) × zM × (Nat → Int64) × (Nat → UInt64) × Nat => y = (((.inl (some (.int (b2i X.1)))), (zH X.2.1 X.2.2.1 X.2.2.2.1 X.2.2.2.2.1 X.2.2.2.2.2.1 X.2.2.2.2.2.2.1 X.2.2.2.2.2.2.2.1 X.2.2.2.2.2.2.2.2.1 X.2.2.2.2.2.2.2.2.2.1 X.2.2.2.2.2.2.2.2.2.2)) : (Option Value ⊕ String) × px_H))) x) : qw_law_28 S xs y s := by
  obtain ⟨I, C, Y, Γ, D, O, M, ou, od, j, a5⟩ := s
  intro u6 u7 hu7 u8
  have hk : pt_mt[412]? = some pt_r412 := rfl
  unfold fw_law_b28 at hx
  try dsimp only at hx
  refine ev_ls (L' := [some (.retAddr 0), some (.ref 0), some (.ref 247), some (.ref 261), some (.ref 262), some (.int a5), u6, u7, u8, none]) (st' := [.int a5]) (pc' := 30) hk (.iload 5) 2 rfl rfl rfl rfl ?_
  refine ev_ls (L' := [some (.retAddr 0), some (.ref 0), some (.ref 247), some (.ref 261), some (.ref 262), some (.int a5), u6, u7, u8, none]) (st' := [.retAddr 0, .int a5]) (pc' := 31) hk (.aload_n 0) 1 rfl rfl rfl rfl ?_
  refine ev_sln 32 hk rfl rfl ?_
  refine ev_op (st' := [.int 6, .int (Int32.ofNat S), .int a5]) (pc' := 34) hk (.bipush 6) 2 rfl rfl rfl ?_
  refine ev_op (st' := [.int ((Int32.ofNat S) - 6), .int a5]) (pc' := 35) hk (.isub) 1 rfl rfl rfl ?_
  refine ev_d2 3195 38 hk rfl rfl rfl rfl (px_cgt hx (fun hc hx => ?_) (fun hc hx => ?_))
  · refine ev_op (st' := [.int 1]) (pc' := 3196) hk (.iconst 1) 1 rfl rfl rfl ?_
    cases hx
    obtain rfl := hM
    exact ev_retZ true rfl hk rfl rfl
  · refine ev_ls (L' := [some (.retAddr 0), some (.ref 0), some (.ref 247), some (.ref 261), some (.ref 262), some (.int a5), u6, u7, u8, none]) (st' := [.retAddr 0]) (pc' := 39) hk (.aload_n 0) 1 rfl rfl rfl rfl ?_
    refine ev_ls (L' := [some (.retAddr 0), some (.ref 0), some (.ref 247), some (.ref 261), some (.ref 262), some (.int a5), u6, u7, u8, none]) (st' := [.int a5, .retAddr 0]) (pc' := 41) hk (.iload 5) 2 rfl rfl rfl rfl ?_
    obtain ⟨v1019, hv1019, hx⟩ := bnd_some hx
    refine ev_sal hv1019 42 hk rfl rfl ?_
    refine ev_op (st' := [.int 63, .int v1019]) (pc' := 44) hk (.bipush 63) 2 rfl rfl rfl ?_
    refine ev_op (st' := [.int (v1019 &&& 63)]) (pc' := 45) hk (.iand) 1 rfl rfl rfl ?_
    refine ev_ts 0 288 hk rfl rfl (by decide +kernel) hx (fun hc hx => ?_) (fun hn0 hx => ?_)
    · exact rw_law_j288 hx hM u6 u7 hu7 u8
    refine ev_ts 1 392 hk rfl rfl (by decide +kernel) hx (fun hc hx => ?_) (fun hn1 hx => ?_)
    · exact rw_law_j392 hx hM u6 u7 hu7 u8
    refine ev_ts 2 448 hk rfl rfl (by decide +kernel) hx (fun hc hx => ?_) (fun hn2 hx => ?_)
    · exact rw_law_j448 hx hM u6 u7 hu7 u8
    refine ev_ts 3 492 hk rfl rfl (by decide +kernel) hx (fun hc hx => ?_) (fun hn3 hx => ?_)
    · exact rw_law_j492 hx hM u6 u7 hu7 u8
    refine ev_ts 4 536 hk rfl rfl (by decide +kernel) hx (fun hc hx => ?_) (fun hn4 hx => ?_)
    · exact rw_law_j536 hx hM u6 u7 hu7 u8
    refine ev_ts 5 549 hk rfl rfl (by decide +kernel) hx (fun hc hx => ?_) (fun hn5 hx => ?_)
    · exact rw_law_j549 hx hM u6 u7 hu7 u8
    refine ev_ts 6 562 hk rfl rfl (by decide +kernel) hx (fun hc hx => ?_) (fun hn6 hx => ?_)
    · exact rw_law_j562 hx hM u6 u7 hu7 u8
    refine ev_ts 7 575 hk rfl rfl (by decide +kernel) hx (fun hc hx => ?_) (fun hn7 hx => ?_)
    · exact rw_law_j575 hx hM u6 u7 hu7 u8
    refine ev_ts 8 631 hk rfl rfl (by decide +kernel) hx (fun hc hx => ?_) (fun hn8 hx => ?_)
    · exact rw_law_j631 hx hM u6 u7 hu7 u8
    refine ev_ts 9 687 hk rfl rfl (by decide +kernel) hx (fun hc hx => ?_) (fun hn9 hx => ?_)
    · exact rw_law_j687 hx hM u6 u7 hu7 u8
    refine ev_ts 10 743 hk rfl rfl (by decide +kernel) hx (fun hc hx => ?_) (fun hn10 hx => ?_)
    · exact rw_law_j743 hx hM u6 u7 hu7 u8
    refine ev_ts 11 799 hk rfl rfl (by decide +kernel) hx (fun hc hx => ?_) (fun hn11 hx => ?_)
    · exact rw_law_j799 hx hM u6 u7 hu7 u8
    refine ev_ts 12 855 hk rfl rfl (by decide +kernel) hx (fun hc hx => ?_) (fun hn12 hx => ?_)
    · exact rw_law_j855 hx hM u6 u7 hu7 u8
    refine ev_ts 13 868 hk rfl rfl (by decide +kernel) hx (fun hc hx => ?_) (fun hn13 hx => ?_)
    · exact rw_law_j868 hx hM u6 u7 hu7 u8
    refine ev_ts 14 881 hk rfl rfl (by decide +kernel) hx (fun hc hx => ?_) (fun hn14 hx => ?_)
    · exact rw_law_j881 hx hM u6 u7 hu7 u8
    refine ev_ts 15 937 hk rfl rfl (by decide +kernel) hx (fun hc hx => ?_) (fun hn15 hx => ?_)
    · exact rw_law_j937 hx hM u6 u7 hu7 u8
    refine ev_ts 16 1005 hk rfl rfl (by decide +kernel) hx (fun hc hx => ?_) (fun hn16 hx => ?_)
    · exact rw_law_j1005 hx hM u6 u7 hu7 u8
    refine ev_ts 17 1073 hk rfl rfl (by decide +kernel) hx (fun hc hx => ?_) (fun hn17 hx => ?_)
    · exact rw_law_j1073 hx hM u6 u7 hu7 u8
    refine ev_ts 18 1141 hk rfl rfl (by decide +kernel) hx (fun hc hx => ?_) (fun hn18 hx => ?_)
    · exact rw_law_j1141 hx hM u6 u7 hu7 u8
    refine ev_ts 19 1154 hk rfl rfl (by decide +kernel) hx (fun hc hx => ?_) (fun hn19 hx => ?_)
    · exact rw_law_j1154 hx hM u6 u7 hu7 u8
    refine ev_ts 20 1167 hk rfl rfl (by decide +kernel) hx (fun hc hx => ?_) (fun hn20 hx => ?_)
    · exact rw_law_j1167 hx hM u6 u7 hu7 u8
    refine ev_ts 21 1235 hk rfl rfl (by decide +kernel) hx (fun hc hx => ?_) (fun hn21 hx => ?_)
    · exact rw_law_j1235 hx hM u6 u7 hu7 u8
    refine ev_ts 22 1248 hk rfl rfl (by decide +kernel) hx (fun hc hx => ?_) (fun hn22 hx => ?_)
    · exact rw_law_j1248 hx hM u6 u7 hu7 u8
    refine ev_ts 23 1311 hk rfl rfl (by decide +kernel) hx (fun hc hx => ?_) (fun hn23 hx => ?_)
    · exact rw_law_j1311 hx hM u6 u7 hu7 u8
    refine ev_ts 24 1367 hk rfl rfl (by decide +kernel) hx (fun hc hx => ?_) (fun hn24 hx => ?_)
    · exact rw_law_j1367 hx hM u6 u7 hu7 u8
    refine ev_ts 25 1423 hk rfl rfl (by decide +kernel) hx (fun hc hx => ?_) (fun hn25 hx => ?_)
    · exact rw_law_j1423 hx hM u6 u7 hu7 u8
    refine ev_ts 26 1479 hk rfl rfl (by decide +kernel) hx (fun hc hx => ?_) (fun hn26 hx => ?_)
    · exact rw_law_j1479 hx hM u6 u7 hu7 u8
    refine ev_ts 27 1535 hk rfl rfl (by decide +kernel) hx (fun hc hx => ?_) (fun hn27 hx => ?_)
    · exact rw_law_j1535 hx hM u6 u7 hu7 u8
    refine ev_ts 28 1591 hk rfl rfl (by decide +kernel) hx (fun hc hx => ?_) (fun hn28 hx => ?_)
    · exact rw_law_j1591 hx hM u6 u7 hu7 u8
    refine ev_ts 29 1604 hk rfl rfl (by decide +kernel) hx (fun hc hx => ?_) (fun hn29 hx => ?_)
    · exact rw_law_j1604 hx hM u6 u7 hu7 u8
    refine ev_ts 30 1617 hk rfl rfl (by decide +kernel) hx (fun hc hx => ?_) (fun hn30 hx => ?_)
    · exact rw_law_j1617 hx hM u6 u7 hu7 u8
    refine ev_ts 31 1673 hk rfl rfl (by decide +kernel) hx (fun hc hx => ?_) (fun hn31 hx => ?_)
    · exact rw_law_j1673 hx hM u6 u7 hu7 u8
    refine ev_ts 32 1729 hk rfl rfl (by decide +kernel) hx (fun hc hx => ?_) (fun hn32 hx => ?_)
    · exact rw_law_j1729 hx hM u6 u7 hu7 u8
    refine ev_ts 33 1785 hk rfl rfl (by decide +kernel) hx (fun hc hx => ?_) (fun hn33 hx => ?_)
    · exact rw_law_j1785 hx hM u6 u7 hu7 u8
    refine ev_ts 34 1848 hk rfl rfl (by decide +kernel) hx (fun hc hx => ?_) (fun hn34 hx => ?_)
    · exact rw_law_j1848 hx hM u6 u7 hu7 u8
    refine ev_ts 35 1916 hk rfl rfl (by decide +kernel) hx (fun hc hx => ?_) (fun hn35 hx => ?_)
    · exact rw_law_j1916 hx hM u6 u7 hu7 u8
    refine ev_ts 36 1984 hk rfl rfl (by decide +kernel) hx (fun hc hx => ?_) (fun hn36 hx => ?_)
    · exact rw_law_j1984 hx hM u6 u7 hu7 u8
    refine ev_ts 37 2052 hk rfl rfl (by decide +kernel) hx (fun hc hx => ?_) (fun hn37 hx => ?_)
    · exact rw_law_j2052 hx hM u6 u7 hu7 u8
    refine ev_ts 38 2120 hk rfl rfl (by decide +kernel) hx (fun hc hx => ?_) (fun hn38 hx => ?_)
    · exact rw_law_j2120 hx hM u6 u7 hu7 u8
    refine ev_ts 39 2176 hk rfl rfl (by decide +kernel) hx (fun hc hx => ?_) (fun hn39 hx => ?_)
    · exact rw_law_j2176 hx hM u6 u7 hu7 u8
    refine ev_ts 40 2244 hk rfl rfl (by decide +kernel) hx (fun hc hx => ?_) (fun hn40 hx => ?_)
    · exact rw_law_j2244 hx hM u6 u7 hu7 u8
    refine ev_ts 41 2257 hk rfl rfl (by decide +kernel) hx (fun hc hx => ?_) (fun hn41 hx => ?_)
    · exact rw_law_j2257 hx hM u6 u7 hu7 u8
    refine ev_ts 42 2298 hk rfl rfl (by decide +kernel) hx (fun hc hx => ?_) (fun hn42 hx => ?_)
    · exact rw_law_j2298 hx hM u6 u7 hu7 u8
    refine ev_ts 43 2376 hk rfl rfl (by decide +kernel) hx (fun hc hx => ?_) (fun hn43 hx => ?_)
    · exact rw_law_j2376 hx hM u6 u7 hu7 u8
    refine ev_ts 44 2444 hk rfl rfl (by decide +kernel) hx (fun hc hx => ?_) (fun hn44 hx => ?_)
    · exact rw_law_j2444 hx hM u6 u7 hu7 u8
    refine ev_ts 45 2512 hk rfl rfl (by decide +kernel) hx (fun hc hx => ?_) (fun hn45 hx => ?_)
    · exact rw_law_j2512 hx hM u6 u7 hu7 u8
    refine ev_ts 46 2580 hk rfl rfl (by decide +kernel) hx (fun hc hx => ?_) (fun hn46 hx => ?_)
    · exact rw_law_j2580 hx hM u6 u7 hu7 u8
    refine ev_ts 47 2648 hk rfl rfl (by decide +kernel) hx (fun hc hx => ?_) (fun hn47 hx => ?_)
    · exact rw_law_j2648 hx hM u6 u7 hu7 u8
    refine ev_ts 48 2716 hk rfl rfl (by decide +kernel) hx (fun hc hx => ?_) (fun hn48 hx => ?_)
    · exact rw_law_j2716 hx hM u6 u7 hu7 u8
    refine ev_ts 49 2772 hk rfl rfl (by decide +kernel) hx (fun hc hx => ?_) (fun hn49 hx => ?_)
    · exact rw_law_j2772 hx hM u6 u7 hu7 u8
    refine ev_ts 50 2840 hk rfl rfl (by decide +kernel) hx (fun hc hx => ?_) (fun hn50 hx => ?_)
    · exact rw_law_j2840 hx hM u6 u7 hu7 u8
    refine ev_ts 51 2920 hk rfl rfl (by decide +kernel) hx (fun hc hx => ?_) (fun hn51 hx => ?_)
    · exact rw_law_j2920 hx hM u6 u7 hu7 u8
    refine ev_ts 52 2976 hk rfl rfl (by decide +kernel) hx (fun hc hx => ?_) (fun hn52 hx => ?_)
    · exact rw_law_j2976 hx hM u6 u7 hu7 u8
    refine ev_ts 53 3020 hk rfl rfl (by decide +kernel) hx (fun hc hx => ?_) (fun hn53 hx => ?_)
    · exact rw_law_j3020 hx hM u6 u7 hu7 u8
    refine ev_ts 54 3076 hk rfl rfl (by decide +kernel) hx (fun hc hx => ?_) (fun hn54 hx => ?_)
    · exact rw_law_j3076 hx hM u6 u7 hu7 u8
    refine ev_ts 55 3132 hk rfl rfl (by decide +kernel) hx (fun hc hx => ?_) (fun hn55 hx => ?_)
    · exact rw_law_j3132 hx hM u6 u7 hu7 u8
    refine ev_ts 56 3145 hk rfl rfl (by decide +kernel) hx (fun hc hx => ?_) (fun hn56 hx => ?_)
    · exact rw_law_j3145 hx hM u6 u7 hu7 u8
    refine ev_tsd 3189 (lo := 0) (n := 56) hk rfl (ts_all0_56 hn0 hn1 hn2 hn3 hn4 hn5 hn6 hn7 hn8 hn9 hn10 hn11 hn12 hn13 hn14 hn15 hn16 hn17 hn18 hn19 hn20 hn21 hn22 hn23 hn24 hn25 hn26 hn27 hn28 hn29 hn30 hn31 hn32 hn33 hn34 hn35 hn36 hn37 hn38 hn39 hn40 hn41 hn42 hn43 hn44 hn45 hn46 hn47 hn48 hn49 hn50 hn51 hn52 hn53 hn54 hn55 hn56) (by decide) (by decide +kernel) rfl ?_
    refine ev_ls (L' := [some (.retAddr 0), some (.ref 0), some (.ref 247), some (.ref 261), some (.ref 262), some (.int (a5 + 6)), u6, u7, u8, none]) (st' := []) (pc' := 3192) hk (.iinc 5 6) 3 rfl rfl rfl rfl ?_
    refine ev_jp (pc' := 28) (st' := []) hk (.goto (-3164)) 3 rfl rfl rfl rfl rfl ?_
    cases hx
    exact hM u6 u7 hu7 u8
set_option maxRecDepth 2000 in
theorem rw_law {S : Nat} {xs : Nat → Int32} {I : zI} {C : zC} {Y : Nat → Int32} {Γ : Nat → zG} {D : zD} {O : Nat → Int32} {M : zM} {ou : Nat → Int64} {od : Nat → UInt64} {j : Nat}  {X : Bool × zI × zC × (Nat → Int32) × (Nat → zG) × zD × (Nat → Int32) × zM × (Nat → Int64) × (Nat → UInt64) × Nat}   (hx : fw_law S xs I C Y Γ D O M ou od j = some X) : Ev S xs 412 28 [some (.retAddr 0), some (.ref 0), some (.ref 247), some (.ref 261), some (.ref 262), some (.int 0), none, none, none, none] [] (zH I C Y Γ D O M ou od j) (((.inl (some (.int (b2i X.1)))), (zH X.2.1 X.2.2.1 X.2.2.2.1 X.2.2.2.2.1 X.2.2.2.2.2.1 X.2.2.2.2.2.2.1 X.2.2.2.2.2.2.2.1 X.2.2.2.2.2.2.2.2.1 X.2.2.2.2.2.2.2.2.2.1 X.2.2.2.2.2.2.2.2.2.2)) : (Option Value ⊕ String) × px_H) := by
  generalize hM : (((.inl (some (.int (b2i X.1)))), (zH X.2.1 X.2.2.1 X.2.2.2.1 X.2.2.2.2.1 X.2.2.2.2.2.1 X.2.2.2.2.2.2.1 X.2.2.2.2.2.2.2.1 X.2.2.2.2.2.2.2.2.1 X.2.2.2.2.2.2.2.2.2.1 X.2.2.2.2.2.2.2.2.2.2)) : (Option Value ⊕ String) × px_H) = y
  replace hM := hM.symm
  have hk : pt_mt[412]? = some pt_r412 := rfl
  unfold fw_law at hx
  exact ev_iter (qw_law_28 S xs _) (fun X : Bool × zI × zC × (Nat → Int32) × (Nat → zG) × zD × (Nat → Int32) × zM × (Nat → Int64) × (Nat → UInt64) × Nat => y = (((.inl (some (.int (b2i X.1)))), (zH X.2.1 X.2.2.1 X.2.2.2.1 X.2.2.2.2.1 X.2.2.2.2.2.1 X.2.2.2.2.2.2.1 X.2.2.2.2.2.2.2.1 X.2.2.2.2.2.2.2.2.1 X.2.2.2.2.2.2.2.2.2.1 X.2.2.2.2.2.2.2.2.2.2)) : (Option Value ⊕ String) × px_H)) (fun s x hb hM => rw_law_b28 hb hM) fu _ _ hx hM none none rfl none

/-! THE ROWS of the methods: each function is what the pure machine does (0) -/
theorem ts_all0_4 {x : Int32} (h0 : x ≠ 0) (h1 : x ≠ 1) (h2 : x ≠ 2) (h3 : x ≠ 3) (h4 : x ≠ 4) : ∀ m ∈ List.range (4 + 1), 0 ≤ m → x ≠ Int32.ofNat m := fun m hm hl => match m, List.mem_range.mp hm, hl with
  | 0, _, _ => h0
  | 1, _, _ => h1
  | 2, _, _ => h2
  | 3, _, _ => h3
  | 4, _, _ => h4
  | k + 5, hm, _ => absurd hm (by omega)
theorem ts_all0_56 {x : Int32} (h0 : x ≠ 0) (h1 : x ≠ 1) (h2 : x ≠ 2) (h3 : x ≠ 3) (h4 : x ≠ 4) (h5 : x ≠ 5) (h6 : x ≠ 6) (h7 : x ≠ 7) (h8 : x ≠ 8) (h9 : x ≠ 9) (h10 : x ≠ 10) (h11 : x ≠ 11) (h12 : x ≠ 12) (h13 : x ≠ 13) (h14 : x ≠ 14) (h15 : x ≠ 15) (h16 : x ≠ 16) (h17 : x ≠ 17) (h18 : x ≠ 18) (h19 : x ≠ 19) (h20 : x ≠ 20) (h21 : x ≠ 21) (h22 : x ≠ 22) (h23 : x ≠ 23) (h24 : x ≠ 24) (h25 : x ≠ 25) (h26 : x ≠ 26) (h27 : x ≠ 27) (h28 : x ≠ 28) (h29 : x ≠ 29) (h30 : x ≠ 30) (h31 : x ≠ 31) (h32 : x ≠ 32) (h33 : x ≠ 33) (h34 : x ≠ 34) (h35 : x ≠ 35) (h36 : x ≠ 36) (h37 : x ≠ 37) (h38 : x ≠ 38) (h39 : x ≠ 39) (h40 : x ≠ 40) (h41 : x ≠ 41) (h42 : x ≠ 42) (h43 : x ≠ 43) (h44 : x ≠ 44) (h45 : x ≠ 45) (h46 : x ≠ 46) (h47 : x ≠ 47) (h48 : x ≠ 48) (h49 : x ≠ 49) (h50 : x ≠ 50) (h51 : x ≠ 51) (h52 : x ≠ 52) (h53 : x ≠ 53) (h54 : x ≠ 54) (h55 : x ≠ 55) (h56 : x ≠ 56) : ∀ m ∈ List.range (56 + 1), 0 ≤ m → x ≠ Int32.ofNat m := fun m hm hl => match m, List.mem_range.mp hm, hl with
  | 0, _, _ => h0
  | 1, _, _ => h1
  | 2, _, _ => h2
  | 3, _, _ => h3
  | 4, _, _ => h4
  | 5, _, _ => h5
  | 6, _, _ => h6
  | 7, _, _ => h7
  | 8, _, _ => h8
  | 9, _, _ => h9
  | 10, _, _ => h10
  | 11, _, _ => h11
  | 12, _, _ => h12
  | 13, _, _ => h13
  | 14, _, _ => h14
  | 15, _, _ => h15
  | 16, _, _ => h16
  | 17, _, _ => h17
  | 18, _, _ => h18
  | 19, _, _ => h19
  | 20, _, _ => h20
  | 21, _, _ => h21
  | 22, _, _ => h22
  | 23, _, _ => h23
  | 24, _, _ => h24
  | 25, _, _ => h25
  | 26, _, _ => h26
  | 27, _, _ => h27
  | 28, _, _ => h28
  | 29, _, _ => h29
  | 30, _, _ => h30
  | 31, _, _ => h31
  | 32, _, _ => h32
  | 33, _, _ => h33
  | 34, _, _ => h34
  | 35, _, _ => h35
  | 36, _, _ => h36
  | 37, _, _ => h37
  | 38, _, _ => h38
  | 39, _, _ => h39
  | 40, _, _ => h40
  | 41, _, _ => h41
  | 42, _, _ => h42
  | 43, _, _ => h43
  | 44, _, _ => h44
  | 45, _, _ => h45
  | 46, _, _ => h46
  | 47, _, _ => h47
  | 48, _, _ => h48
  | 49, _, _ => h49
  | 50, _, _ => h50
  | 51, _, _ => h51
  | 52, _, _ => h52
  | 53, _, _ => h53
  | 54, _, _ => h54
  | 55, _, _ => h55
  | 56, _, _ => h56
  | k + 57, hm, _ => absurd hm (by omega)
theorem ts_all1_5 {x : Int32} (h1 : x ≠ 1) (h2 : x ≠ 2) (h3 : x ≠ 3) (h4 : x ≠ 4) (h5 : x ≠ 5) : ∀ m ∈ List.range (5 + 1), 1 ≤ m → x ≠ Int32.ofNat m := fun m hm hl => match m, List.mem_range.mp hm, hl with
  | 0, _, hl => absurd hl (by decide)
  | 1, _, _ => h1
  | 2, _, _ => h2
  | 3, _, _ => h3
  | 4, _, _ => h4
  | 5, _, _ => h5
  | k + 6, hm, _ => absurd hm (by omega)
set_option maxRecDepth 2000 in
theorem rC_copyFrom {S : Nat} {xs : Nat → Int32} {I : zI} {C : zC} {Y : Nat → Int32} {Γ : Nat → zG} {D : zD} {O : Nat → Int32} {M : zM} {ou : Nat → Int64} {od : Nat → UInt64} {j : Nat} {g : Nat} {G : zG} {go : Nat} {Go : zG}  {X : zG}  (hg : isG g) (hgo : isG go) (hne : go ≠ g) (hGo : Γ go = Go) (hx : fC_copyFrom G Go = some X) : Ev S xs 6 0 [some (.ref (g + 1)), some (.ref (go + 1))] [] (zH I C Y (gup Γ g G) D O M ou od j) (((.inl none), (zH I C Y (gup Γ g X) D O M ou od j)) : (Option Value ⊕ String) × px_H) := by
  generalize hM : (((.inl none), (zH I C Y (gup Γ g X) D O M ou od j)) : (Option Value ⊕ String) × px_H) = y
  replace hM := hM.symm
  have hk : pt_mt[6]? = some pt_r6 := rfl
  unfold fC_copyFrom at hx
  refine ev_ls (L' := [some (.ref (g + 1)), some (.ref (go + 1))]) (st' := [.ref (g + 1)]) (pc' := 1) hk (.aload_n 0) 1 rfl rfl rfl rfl ?_
  refine ev_ls (L' := [some (.ref (g + 1)), some (.ref (go + 1))]) (st' := [.ref (go + 1), .ref (g + 1)]) (pc' := 2) hk (.aload_n 1) 1 rfl rfl rfl rfl ?_
  refine ev_gf (.int (gF Go 1 0)) 5 hk rfl rfl (lk_cloth hgo ((gup_ne hne).trans hGo)) rfl rfl ?_
  obtain ⟨G5, hG5, hx⟩ := bnd_some hx
  have hG5 := Option.some.inj hG5
  refine ev_pf 8 hk rfl rfl (lk_cloth hg gup_same) rfl rfl rfl (sf_0_0 hg  gup_same hG5 gup_gup) rfl ?_
  refine ev_ls (L' := [some (.ref (g + 1)), some (.ref (go + 1))]) (st' := [.ref (go + 1)]) (pc' := 9) hk (.aload_n 1) 1 rfl rfl rfl rfl ?_
  refine ev_gf (.ref (go + 2)) 12 hk rfl rfl (lk_cloth hgo ((gup_ne hne).trans hGo)) rfl rfl ?_
  refine ev_op (st' := [.int 0, .ref (go + 2)]) (pc' := 13) hk (.iconst 0) 1 rfl rfl rfl ?_
  refine ev_ls (L' := [some (.ref (g + 1)), some (.ref (go + 1))]) (st' := [.ref (g + 1), .int 0, .ref (go + 2)]) (pc' := 14) hk (.aload_n 0) 1 rfl rfl rfl rfl ?_
  refine ev_gf (.ref (g + 2)) 17 hk rfl rfl (lk_cloth hg gup_same) rfl rfl ?_
  refine ev_op (st' := [.int 0, .ref (g + 2), .int 0, .ref (go + 2)]) (pc' := 18) hk (.iconst 0) 1 rfl rfl rfl ?_
  refine ev_op (st' := [.int 12, .int 0, .ref (g + 2), .int 0, .ref (go + 2)]) (pc' := 20) hk (.bipush 12) 2 rfl rfl rfl ?_
  obtain ⟨G6, hG6, hx⟩ := bnd_some hx
  have hG6 := Option.some.inj hG6
  refine ev_acp 23 hk rfl rfl (lk_a2 hgo ((gup_ne hne).trans hGo)) (lk_a2 hg gup_same) (by decide) (sa_g2 hg gup_same hG6 gup_gup) rfl ?_
  refine ev_ls (L' := [some (.ref (g + 1)), some (.ref (go + 1))]) (st' := [.ref (go + 1)]) (pc' := 24) hk (.aload_n 1) 1 rfl rfl rfl rfl ?_
  refine ev_gf (.ref (go + 3)) 27 hk rfl rfl (lk_cloth hgo ((gup_ne hne).trans hGo)) rfl rfl ?_
  refine ev_op (st' := [.int 0, .ref (go + 3)]) (pc' := 28) hk (.iconst 0) 1 rfl rfl rfl ?_
  refine ev_ls (L' := [some (.ref (g + 1)), some (.ref (go + 1))]) (st' := [.ref (g + 1), .int 0, .ref (go + 3)]) (pc' := 29) hk (.aload_n 0) 1 rfl rfl rfl rfl ?_
  refine ev_gf (.ref (g + 3)) 32 hk rfl rfl (lk_cloth hg gup_same) rfl rfl ?_
  refine ev_op (st' := [.int 0, .ref (g + 3), .int 0, .ref (go + 3)]) (pc' := 33) hk (.iconst 0) 1 rfl rfl rfl ?_
  refine ev_op (st' := [.int 12, .int 0, .ref (g + 3), .int 0, .ref (go + 3)]) (pc' := 35) hk (.bipush 12) 2 rfl rfl rfl ?_
  obtain ⟨G7, hG7, hx⟩ := bnd_some hx
  have hG7 := Option.some.inj hG7
  refine ev_acp 38 hk rfl rfl (lk_a3 hgo ((gup_ne hne).trans hGo)) (lk_a3 hg gup_same) (by decide) (sa_g3 hg gup_same hG7 gup_gup) rfl ?_
  refine ev_ls (L' := [some (.ref (g + 1)), some (.ref (go + 1))]) (st' := [.ref (go + 1)]) (pc' := 39) hk (.aload_n 1) 1 rfl rfl rfl rfl ?_
  refine ev_gf (.ref (go + 4)) 42 hk rfl rfl (lk_cloth hgo ((gup_ne hne).trans hGo)) rfl rfl ?_
  refine ev_op (st' := [.int 0, .ref (go + 4)]) (pc' := 43) hk (.iconst 0) 1 rfl rfl rfl ?_
  refine ev_ls (L' := [some (.ref (g + 1)), some (.ref (go + 1))]) (st' := [.ref (g + 1), .int 0, .ref (go + 4)]) (pc' := 44) hk (.aload_n 0) 1 rfl rfl rfl rfl ?_
  refine ev_gf (.ref (g + 4)) 47 hk rfl rfl (lk_cloth hg gup_same) rfl rfl ?_
  refine ev_op (st' := [.int 0, .ref (g + 4), .int 0, .ref (go + 4)]) (pc' := 48) hk (.iconst 0) 1 rfl rfl rfl ?_
  refine ev_op (st' := [.int 12, .int 0, .ref (g + 4), .int 0, .ref (go + 4)]) (pc' := 50) hk (.bipush 12) 2 rfl rfl rfl ?_
  obtain ⟨G8, hG8, hx⟩ := bnd_some hx
  have hG8 := Option.some.inj hG8
  refine ev_acp 53 hk rfl rfl (lk_a4 hgo ((gup_ne hne).trans hGo)) (lk_a4 hg gup_same) (by decide) (sa_g4 hg gup_same hG8 gup_gup) rfl ?_
  cases hx
  obtain rfl := hM
  exact ev_retv hk rfl rfl
set_option maxRecDepth 2000 in
theorem rP_copyFrom {S : Nat} {xs : Nat → Int32} {I : zI} {C : zC} {Y : Nat → Int32} {Γ : Nat → zG} {D : zD} {O : Nat → Int32} {M : zM} {ou : Nat → Int64} {od : Nat → UInt64} {j : Nat} {g : Nat} {G : zG} {go : Nat} {Go : zG} {p0 : Nat} {p1 : Nat} {X : zG}  (hg : isG g) (hgo : isG go) (hne : go ≠ g) (hGo : Γ go = Go) (hp0 : p0 < 10) (hp1 : p1 < 10) (hx : fP_copyFrom G Go p0 p1 = some X) : Ev S xs 295 0 [some (.ref (g + (7 + p0))), some (.ref (go + (7 + p1)))] [] (zH I C Y (gup Γ g G) D O M ou od j) (((.inl none), (zH I C Y (gup Γ g X) D O M ou od j)) : (Option Value ⊕ String) × px_H) := by
  generalize hM : (((.inl none), (zH I C Y (gup Γ g X) D O M ou od j)) : (Option Value ⊕ String) × px_H) = y
  replace hM := hM.symm
  have hk : pt_mt[295]? = some pt_r295 := rfl
  unfold fP_copyFrom at hx
  refine ev_ls (L' := [some (.ref (g + (7 + p0))), some (.ref (go + (7 + p1)))]) (st' := [.ref (g + (7 + p0))]) (pc' := 1) hk (.aload_n 0) 1 rfl rfl rfl rfl ?_
  refine ev_ls (L' := [some (.ref (g + (7 + p0))), some (.ref (go + (7 + p1)))]) (st' := [.ref (go + (7 + p1)), .ref (g + (7 + p0))]) (pc' := 2) hk (.aload_n 1) 1 rfl rfl rfl rfl ?_
  refine ev_gf (.long (gN Go (7 + p1))) 5 hk rfl rfl (lk_spot hgo hp1 ((gup_ne hne).trans hGo)) rfl rfl ?_
  obtain ⟨G9, hG9, hx⟩ := bnd_some hx
  have hG9 := Option.some.inj hG9
  refine ev_pf 8 hk rfl rfl (lk_spot hg hp0 gup_same) rfl rfl rfl (sf_6_0 hg hp0 gup_same hG9 gup_gup) rfl ?_
  refine ev_ls (L' := [some (.ref (g + (7 + p0))), some (.ref (go + (7 + p1)))]) (st' := [.ref (g + (7 + p0))]) (pc' := 9) hk (.aload_n 0) 1 rfl rfl rfl rfl ?_
  refine ev_ls (L' := [some (.ref (g + (7 + p0))), some (.ref (go + (7 + p1)))]) (st' := [.ref (go + (7 + p1)), .ref (g + (7 + p0))]) (pc' := 10) hk (.aload_n 1) 1 rfl rfl rfl rfl ?_
  refine ev_gf (.int (b2i (gB Go (7 + p1)))) 13 hk rfl rfl (lk_spot hgo hp1 ((gup_ne hne).trans hGo)) rfl rfl ?_
  obtain ⟨G10, hG10, hx⟩ := bnd_some hx
  have hG10 := Option.some.inj hG10
  refine ev_pf 16 hk rfl rfl (lk_spot hg hp0 gup_same) rfl (fit_b _) rfl (sf_6_1 hg hp0 gup_same hG10 gup_gup) rfl ?_
  refine ev_ls (L' := [some (.ref (g + (7 + p0))), some (.ref (go + (7 + p1)))]) (st' := [.ref (g + (7 + p0))]) (pc' := 17) hk (.aload_n 0) 1 rfl rfl rfl rfl ?_
  refine ev_ls (L' := [some (.ref (g + (7 + p0))), some (.ref (go + (7 + p1)))]) (st' := [.ref (go + (7 + p1)), .ref (g + (7 + p0))]) (pc' := 18) hk (.aload_n 1) 1 rfl rfl rfl rfl ?_
  refine ev_gf (.int (gF Go (7 + p1) 2)) 21 hk rfl rfl (lk_spot hgo hp1 ((gup_ne hne).trans hGo)) rfl rfl ?_
  obtain ⟨G11, hG11, hx⟩ := bnd_some hx
  have hG11 := Option.some.inj hG11
  refine ev_pf 24 hk rfl rfl (lk_spot hg hp0 gup_same) rfl rfl rfl (sf_6_2 hg hp0 gup_same hG11 gup_gup) rfl ?_
  refine ev_ls (L' := [some (.ref (g + (7 + p0))), some (.ref (go + (7 + p1)))]) (st' := [.ref (g + (7 + p0))]) (pc' := 25) hk (.aload_n 0) 1 rfl rfl rfl rfl ?_
  refine ev_ls (L' := [some (.ref (g + (7 + p0))), some (.ref (go + (7 + p1)))]) (st' := [.ref (go + (7 + p1)), .ref (g + (7 + p0))]) (pc' := 26) hk (.aload_n 1) 1 rfl rfl rfl rfl ?_
  refine ev_gf (.int (gF Go (7 + p1) 3)) 29 hk rfl rfl (lk_spot hgo hp1 ((gup_ne hne).trans hGo)) rfl rfl ?_
  obtain ⟨G12, hG12, hx⟩ := bnd_some hx
  have hG12 := Option.some.inj hG12
  refine ev_pf 32 hk rfl rfl (lk_spot hg hp0 gup_same) rfl rfl rfl (sf_6_3 hg hp0 gup_same hG12 gup_gup) rfl ?_
  refine ev_ls (L' := [some (.ref (g + (7 + p0))), some (.ref (go + (7 + p1)))]) (st' := [.ref (g + (7 + p0))]) (pc' := 33) hk (.aload_n 0) 1 rfl rfl rfl rfl ?_
  refine ev_ls (L' := [some (.ref (g + (7 + p0))), some (.ref (go + (7 + p1)))]) (st' := [.ref (go + (7 + p1)), .ref (g + (7 + p0))]) (pc' := 34) hk (.aload_n 1) 1 rfl rfl rfl rfl ?_
  refine ev_gf (.int (gF Go (7 + p1) 4)) 37 hk rfl rfl (lk_spot hgo hp1 ((gup_ne hne).trans hGo)) rfl rfl ?_
  obtain ⟨G13, hG13, hx⟩ := bnd_some hx
  have hG13 := Option.some.inj hG13
  refine ev_pf 40 hk rfl rfl (lk_spot hg hp0 gup_same) rfl rfl rfl (sf_6_4 hg hp0 gup_same hG13 gup_gup) rfl ?_
  refine ev_ls (L' := [some (.ref (g + (7 + p0))), some (.ref (go + (7 + p1)))]) (st' := [.ref (g + (7 + p0))]) (pc' := 41) hk (.aload_n 0) 1 rfl rfl rfl rfl ?_
  refine ev_ls (L' := [some (.ref (g + (7 + p0))), some (.ref (go + (7 + p1)))]) (st' := [.ref (go + (7 + p1)), .ref (g + (7 + p0))]) (pc' := 42) hk (.aload_n 1) 1 rfl rfl rfl rfl ?_
  refine ev_gf (.int (gF Go (7 + p1) 5)) 45 hk rfl rfl (lk_spot hgo hp1 ((gup_ne hne).trans hGo)) rfl rfl ?_
  obtain ⟨G14, hG14, hx⟩ := bnd_some hx
  have hG14 := Option.some.inj hG14
  refine ev_pf 48 hk rfl rfl (lk_spot hg hp0 gup_same) rfl rfl rfl (sf_6_5 hg hp0 gup_same hG14 gup_gup) rfl ?_
  refine ev_ls (L' := [some (.ref (g + (7 + p0))), some (.ref (go + (7 + p1)))]) (st' := [.ref (g + (7 + p0))]) (pc' := 49) hk (.aload_n 0) 1 rfl rfl rfl rfl ?_
  refine ev_ls (L' := [some (.ref (g + (7 + p0))), some (.ref (go + (7 + p1)))]) (st' := [.ref (go + (7 + p1)), .ref (g + (7 + p0))]) (pc' := 50) hk (.aload_n 1) 1 rfl rfl rfl rfl ?_
  refine ev_gf (.int (gF Go (7 + p1) 6)) 53 hk rfl rfl (lk_spot hgo hp1 ((gup_ne hne).trans hGo)) rfl rfl ?_
  obtain ⟨G15, hG15, hx⟩ := bnd_some hx
  have hG15 := Option.some.inj hG15
  refine ev_pf 56 hk rfl rfl (lk_spot hg hp0 gup_same) rfl rfl rfl (sf_6_6 hg hp0 gup_same hG15 gup_gup) rfl ?_
  refine ev_ls (L' := [some (.ref (g + (7 + p0))), some (.ref (go + (7 + p1)))]) (st' := [.ref (g + (7 + p0))]) (pc' := 57) hk (.aload_n 0) 1 rfl rfl rfl rfl ?_
  refine ev_ls (L' := [some (.ref (g + (7 + p0))), some (.ref (go + (7 + p1)))]) (st' := [.ref (go + (7 + p1)), .ref (g + (7 + p0))]) (pc' := 58) hk (.aload_n 1) 1 rfl rfl rfl rfl ?_
  refine ev_gf (.int (gF Go (7 + p1) 7)) 61 hk rfl rfl (lk_spot hgo hp1 ((gup_ne hne).trans hGo)) rfl rfl ?_
  obtain ⟨G16, hG16, hx⟩ := bnd_some hx
  have hG16 := Option.some.inj hG16
  refine ev_pf 64 hk rfl rfl (lk_spot hg hp0 gup_same) rfl rfl rfl (sf_6_7 hg hp0 gup_same hG16 gup_gup) rfl ?_
  cases hx
  obtain rfl := hM
  exact ev_retv hk rfl rfl
set_option maxRecDepth 2000 in
theorem rL_copyFrom {S : Nat} {xs : Nat → Int32} {I : zI} {C : zC} {Y : Nat → Int32} {Γ : Nat → zG} {D : zD} {O : Nat → Int32} {M : zM} {ou : Nat → Int64} {od : Nat → UInt64} {j : Nat} {g : Nat} {G : zG} {go : Nat} {Go : zG} {p0 : Nat} {p1 : Nat} {X : zG}  (hg : isG g) (hgo : isG go) (hne : go ≠ g) (hGo : Γ go = Go) (hp0 : p0 < 8) (hp1 : p1 < 8) (hx : fL_copyFrom G Go p0 p1 = some X) : Ev S xs 279 0 [some (.ref (g + (18 + p0))), some (.ref (go + (18 + p1)))] [] (zH I C Y (gup Γ g G) D O M ou od j) (((.inl none), (zH I C Y (gup Γ g X) D O M ou od j)) : (Option Value ⊕ String) × px_H) := by
  generalize hM : (((.inl none), (zH I C Y (gup Γ g X) D O M ou od j)) : (Option Value ⊕ String) × px_H) = y
  replace hM := hM.symm
  have hk : pt_mt[279]? = some pt_r279 := rfl
  unfold fL_copyFrom at hx
  refine ev_ls (L' := [some (.ref (g + (18 + p0))), some (.ref (go + (18 + p1)))]) (st' := [.ref (g + (18 + p0))]) (pc' := 1) hk (.aload_n 0) 1 rfl rfl rfl rfl ?_
  refine ev_ls (L' := [some (.ref (g + (18 + p0))), some (.ref (go + (18 + p1)))]) (st' := [.ref (go + (18 + p1)), .ref (g + (18 + p0))]) (pc' := 2) hk (.aload_n 1) 1 rfl rfl rfl rfl ?_
  refine ev_gf (.int (gF Go (18 + p1) 0)) 5 hk rfl rfl (lk_label hgo hp1 ((gup_ne hne).trans hGo)) rfl rfl ?_
  obtain ⟨G5, hG5, hx⟩ := bnd_some hx
  have hG5 := Option.some.inj hG5
  refine ev_pf 8 hk rfl rfl (lk_label hg hp0 gup_same) rfl rfl rfl (sf_4_0 hg hp0 gup_same hG5 gup_gup) rfl ?_
  refine ev_ls (L' := [some (.ref (g + (18 + p0))), some (.ref (go + (18 + p1)))]) (st' := [.ref (g + (18 + p0))]) (pc' := 9) hk (.aload_n 0) 1 rfl rfl rfl rfl ?_
  refine ev_ls (L' := [some (.ref (g + (18 + p0))), some (.ref (go + (18 + p1)))]) (st' := [.ref (go + (18 + p1)), .ref (g + (18 + p0))]) (pc' := 10) hk (.aload_n 1) 1 rfl rfl rfl rfl ?_
  refine ev_gf (.int (gF Go (18 + p1) 1)) 13 hk rfl rfl (lk_label hgo hp1 ((gup_ne hne).trans hGo)) rfl rfl ?_
  obtain ⟨G6, hG6, hx⟩ := bnd_some hx
  have hG6 := Option.some.inj hG6
  refine ev_pf 16 hk rfl rfl (lk_label hg hp0 gup_same) rfl rfl rfl (sf_4_1 hg hp0 gup_same hG6 gup_gup) rfl ?_
  refine ev_ls (L' := [some (.ref (g + (18 + p0))), some (.ref (go + (18 + p1)))]) (st' := [.ref (g + (18 + p0))]) (pc' := 17) hk (.aload_n 0) 1 rfl rfl rfl rfl ?_
  refine ev_ls (L' := [some (.ref (g + (18 + p0))), some (.ref (go + (18 + p1)))]) (st' := [.ref (go + (18 + p1)), .ref (g + (18 + p0))]) (pc' := 18) hk (.aload_n 1) 1 rfl rfl rfl rfl ?_
  refine ev_gf (.int (gF Go (18 + p1) 2)) 21 hk rfl rfl (lk_label hgo hp1 ((gup_ne hne).trans hGo)) rfl rfl ?_
  obtain ⟨G7, hG7, hx⟩ := bnd_some hx
  have hG7 := Option.some.inj hG7
  refine ev_pf 24 hk rfl rfl (lk_label hg hp0 gup_same) rfl rfl rfl (sf_4_2 hg hp0 gup_same hG7 gup_gup) rfl ?_
  refine ev_ls (L' := [some (.ref (g + (18 + p0))), some (.ref (go + (18 + p1)))]) (st' := [.ref (g + (18 + p0))]) (pc' := 25) hk (.aload_n 0) 1 rfl rfl rfl rfl ?_
  refine ev_ls (L' := [some (.ref (g + (18 + p0))), some (.ref (go + (18 + p1)))]) (st' := [.ref (go + (18 + p1)), .ref (g + (18 + p0))]) (pc' := 26) hk (.aload_n 1) 1 rfl rfl rfl rfl ?_
  refine ev_gf (.int (b2i (gB Go (18 + p1)))) 29 hk rfl rfl (lk_label hgo hp1 ((gup_ne hne).trans hGo)) rfl rfl ?_
  obtain ⟨G8, hG8, hx⟩ := bnd_some hx
  have hG8 := Option.some.inj hG8
  refine ev_pf 32 hk rfl rfl (lk_label hg hp0 gup_same) rfl (fit_b _) rfl (sf_4_3 hg hp0 gup_same hG8 gup_gup) rfl ?_
  cases hx
  obtain rfl := hM
  exact ev_retv hk rfl rfl
def qG_copyFrom_52 (S : Nat) (xs : Nat → Int32) (I : zI) (C : zC) (Y : Nat → Int32) (Γ : Nat → zG) (D : zD) (O : Nat → Int32) (M : zM) (ou : Nat → Int64) (od : Nat → UInt64) (j : Nat) (g : Nat) (go : Nat) (Go : zG) (y : (Option Value ⊕ String) × px_H) (s : zG × Int32) : Prop := Ev S xs 217 52 [some (.ref g), some (.ref go), some (.int s.2)] [] (zH I C Y (gup Γ g s.1) D O M ou od j) y
def qG_copyFrom_91 (S : Nat) (xs : Nat → Int32) (I : zI) (C : zC) (Y : Nat → Int32) (Γ : Nat → zG) (D : zD) (O : Nat → Int32) (M : zM) (ou : Nat → Int64) (od : Nat → UInt64) (j : Nat) (g : Nat) (go : Nat) (Go : zG) (y : (Option Value ⊕ String) × px_H) (s : zG × Int32) : Prop := Ev S xs 217 91 [some (.ref g), some (.ref go), some (.int s.2)] [] (zH I C Y (gup Γ g s.1) D O M ou od j) y
set_option maxRecDepth 4000 in
theorem rG_copyFrom_b91 {S : Nat} {xs : Nat → Int32} {I : zI} {C : zC} {Y : Nat → Int32} {Γ : Nat → zG} {D : zD} {O : Nat → Int32} {M : zM} {ou : Nat → Int64} {od : Nat → UInt64} {j : Nat} {g : Nat} {go : Nat} {Go : zG}  {y : (Option Value ⊕ String) × px_H} {s : zG × Int32} {x : (zG × Int32) ⊕ (zG)} (hg : isG g) (hgo : isG go) (hne : go ≠ g) (hGo : Γ go = Go) (hx : fG_copyFrom_b91 Go s.1 s.2 = some x) (hM : (Sum.elim (qG_copyFrom_91 S xs I C Y Γ D O M ou od j g go Go y) (fun X : zG => y = (((.inl none), (zH I C Y (gup Γ g X) D O M ou od j)) : (Option Value ⊕ String) × px_H))) x) : qG_copyFrom_91 S xs I C Y Γ D O M ou od j g go Go y s := by
  obtain ⟨G, a2⟩ := s
  have hk : pt_mt[217]? = some pt_r217 := rfl
  unfold fG_copyFrom_b91 at hx
  try dsimp only at hx
  refine ev_ls (L' := [some (.ref g), some (.ref go), some (.int a2)]) (st' := [.int a2]) (pc' := 92) hk (.iload_n 2) 1 rfl rfl rfl rfl ?_
  refine ev_ls (L' := [some (.ref g), some (.ref go), some (.int a2)]) (st' := [.ref g, .int a2]) (pc' := 93) hk (.aload_n 0) 1 rfl rfl rfl rfl ?_
  refine ev_gf (.int (gF G 0 6)) 96 hk rfl rfl (lk_globe hg gup_same) rfl rfl ?_
  refine ev_d2 120 99 hk rfl rfl rfl rfl (px_cge hx (fun hc hx => ?_) (fun hc hx => ?_))
  · cases hx
    obtain rfl := hM
    exact ev_retv hk rfl rfl
  · refine ev_ls (L' := [some (.ref g), some (.ref go), some (.int a2)]) (st' := [.ref g]) (pc' := 100) hk (.aload_n 0) 1 rfl rfl rfl rfl ?_
    refine ev_gf (.ref (g + 17)) 103 hk rfl rfl (lk_globe hg gup_same) rfl rfl ?_
    refine ev_ls (L' := [some (.ref g), some (.ref go), some (.int a2)]) (st' := [.int a2, .ref (g + 17)]) (pc' := 104) hk (.iload_n 2) 1 rfl rfl rfl rfl ?_
    obtain ⟨p20, hp20, hx⟩ := bnd_some hx
    have hpp20 := rix_lt hp20
    refine ev_aal (g + (18 + p20)) hp20 105 hk rfl (lk_labels hg gup_same) (by decide) (lk_la hpp20) rfl ?_
    refine ev_ls (L' := [some (.ref g), some (.ref go), some (.int a2)]) (st' := [.ref go, .ref (g + (18 + p20))]) (pc' := 106) hk (.aload_n 1) 1 rfl rfl rfl rfl ?_
    refine ev_gf (.ref (go + 17)) 109 hk rfl rfl (lk_globe hgo ((gup_ne hne).trans hGo)) rfl rfl ?_
    refine ev_ls (L' := [some (.ref g), some (.ref go), some (.int a2)]) (st' := [.int a2, .ref (go + 17), .ref (g + (18 + p20))]) (pc' := 110) hk (.iload_n 2) 1 rfl rfl rfl rfl ?_
    obtain ⟨p21, hp21, hx⟩ := bnd_some hx
    have hpp21 := rix_lt hp21
    refine ev_aal (go + (18 + p21)) hp21 111 hk rfl (lk_labels hgo ((gup_ne hne).trans hGo)) (by decide) (lk_la hpp21) rfl ?_
    obtain ⟨G22, hc23, hx⟩ := bnd_some hx
    refine ev_cv 279 1 [] 114 hk rfl rfl rfl rfl (lk_label hg hpp20 gup_same) rfl rfl rfl (rL_copyFrom hg hgo hne hGo hpp20 hpp21 hc23) rfl rfl rfl rfl ?_
    refine ev_ls (L' := [some (.ref g), some (.ref go), some (.int (a2 + 1))]) (st' := []) (pc' := 117) hk (.iinc 2 1) 3 rfl rfl rfl rfl ?_
    refine ev_jp (pc' := 91) (st' := []) hk (.goto (-26)) 3 rfl rfl rfl rfl rfl ?_
    cases hx
    exact hM
set_option maxRecDepth 4000 in
theorem rG_copyFrom_b52 {S : Nat} {xs : Nat → Int32} {I : zI} {C : zC} {Y : Nat → Int32} {Γ : Nat → zG} {D : zD} {O : Nat → Int32} {M : zM} {ou : Nat → Int64} {od : Nat → UInt64} {j : Nat} {g : Nat} {go : Nat} {Go : zG}  {y : (Option Value ⊕ String) × px_H} {s : zG × Int32} {x : (zG × Int32) ⊕ (zG)} (hg : isG g) (hgo : isG go) (hne : go ≠ g) (hGo : Γ go = Go) (hx : fG_copyFrom_b52 Go s.1 s.2 = some x) (hM : (Sum.elim (qG_copyFrom_52 S xs I C Y Γ D O M ou od j g go Go y) (fun X : zG => y = (((.inl none), (zH I C Y (gup Γ g X) D O M ou od j)) : (Option Value ⊕ String) × px_H))) x) : qG_copyFrom_52 S xs I C Y Γ D O M ou od j g go Go y s := by
  obtain ⟨G, a2⟩ := s
  have hk : pt_mt[217]? = some pt_r217 := rfl
  unfold fG_copyFrom_b52 at hx
  try dsimp only at hx
  refine ev_ls (L' := [some (.ref g), some (.ref go), some (.int a2)]) (st' := [.int a2]) (pc' := 53) hk (.iload_n 2) 1 rfl rfl rfl rfl ?_
  refine ev_ls (L' := [some (.ref g), some (.ref go), some (.int a2)]) (st' := [.ref g, .int a2]) (pc' := 54) hk (.aload_n 0) 1 rfl rfl rfl rfl ?_
  refine ev_gf (.int (gF G 0 4)) 57 hk rfl rfl (lk_globe hg gup_same) rfl rfl ?_
  refine ev_d2 81 60 hk rfl rfl rfl rfl (px_cge hx (fun hc hx => ?_) (fun hc hx => ?_))
  · refine ev_ls (L' := [some (.ref g), some (.ref go), some (.int a2)]) (st' := [.ref g]) (pc' := 82) hk (.aload_n 0) 1 rfl rfl rfl rfl ?_
    refine ev_ls (L' := [some (.ref g), some (.ref go), some (.int a2)]) (st' := [.ref go, .ref g]) (pc' := 83) hk (.aload_n 1) 1 rfl rfl rfl rfl ?_
    refine ev_gf (.int (gF Go 0 6)) 86 hk rfl rfl (lk_globe hgo ((gup_ne hne).trans hGo)) rfl rfl ?_
    obtain ⟨G15, hG15, hx⟩ := bnd_some hx
    have hG15 := Option.some.inj hG15
    refine ev_pf 89 hk rfl rfl (lk_globe hg gup_same) rfl rfl rfl (sf_1_6 hg  gup_same hG15 gup_gup) rfl ?_
    refine ev_op (st' := [.int 0]) (pc' := 90) hk (.iconst 0) 1 rfl rfl rfl ?_
    refine ev_ls (L' := [some (.ref g), some (.ref go), some (.int 0)]) (st' := []) (pc' := 91) hk (.istore_n 2) 1 rfl rfl rfl rfl ?_
    obtain ⟨X, hx2, hX⟩ := Option.map_eq_some_iff.mp hx
    clear hx; subst hX; have hx := hx2; clear hx2
    exact ev_iter (qG_copyFrom_91 S xs I C Y Γ D O M ou od j g go Go _) (fun X : zG => y = (((.inl none), (zH I C Y (gup Γ g X) D O M ou od j)) : (Option Value ⊕ String) × px_H)) (fun s x hb hM => rG_copyFrom_b91 hg hgo hne hGo hb hM) fu _ _ hx hM 
  · refine ev_ls (L' := [some (.ref g), some (.ref go), some (.int a2)]) (st' := [.ref g]) (pc' := 61) hk (.aload_n 0) 1 rfl rfl rfl rfl ?_
    refine ev_gf (.ref (g + 6)) 64 hk rfl rfl (lk_globe hg gup_same) rfl rfl ?_
    refine ev_ls (L' := [some (.ref g), some (.ref go), some (.int a2)]) (st' := [.int a2, .ref (g + 6)]) (pc' := 65) hk (.iload_n 2) 1 rfl rfl rfl rfl ?_
    obtain ⟨p16, hp16, hx⟩ := bnd_some hx
    have hpp16 := rix_lt hp16
    refine ev_aal (g + (7 + p16)) hp16 66 hk rfl (lk_spots hg gup_same) (by decide) (lk_sp hpp16) rfl ?_
    refine ev_ls (L' := [some (.ref g), some (.ref go), some (.int a2)]) (st' := [.ref go, .ref (g + (7 + p16))]) (pc' := 67) hk (.aload_n 1) 1 rfl rfl rfl rfl ?_
    refine ev_gf (.ref (go + 6)) 70 hk rfl rfl (lk_globe hgo ((gup_ne hne).trans hGo)) rfl rfl ?_
    refine ev_ls (L' := [some (.ref g), some (.ref go), some (.int a2)]) (st' := [.int a2, .ref (go + 6), .ref (g + (7 + p16))]) (pc' := 71) hk (.iload_n 2) 1 rfl rfl rfl rfl ?_
    obtain ⟨p17, hp17, hx⟩ := bnd_some hx
    have hpp17 := rix_lt hp17
    refine ev_aal (go + (7 + p17)) hp17 72 hk rfl (lk_spots hgo ((gup_ne hne).trans hGo)) (by decide) (lk_sp hpp17) rfl ?_
    obtain ⟨G18, hc19, hx⟩ := bnd_some hx
    refine ev_cv 295 1 [] 75 hk rfl rfl rfl rfl (lk_spot hg hpp16 gup_same) rfl rfl rfl (rP_copyFrom hg hgo hne hGo hpp16 hpp17 hc19) rfl rfl rfl rfl ?_
    refine ev_ls (L' := [some (.ref g), some (.ref go), some (.int (a2 + 1))]) (st' := []) (pc' := 78) hk (.iinc 2 1) 3 rfl rfl rfl rfl ?_
    refine ev_jp (pc' := 52) (st' := []) hk (.goto (-26)) 3 rfl rfl rfl rfl rfl ?_
    cases hx
    exact hM
set_option maxRecDepth 2000 in
theorem rG_copyFrom {S : Nat} {xs : Nat → Int32} {I : zI} {C : zC} {Y : Nat → Int32} {Γ : Nat → zG} {D : zD} {O : Nat → Int32} {M : zM} {ou : Nat → Int64} {od : Nat → UInt64} {j : Nat} {g : Nat} {G : zG} {go : Nat} {Go : zG}  {X : zG}  (hg : isG g) (hgo : isG go) (hne : go ≠ g) (hGo : Γ go = Go) (hx : fG_copyFrom G Go = some X) : Ev S xs 217 0 [some (.ref g), some (.ref go), none] [] (zH I C Y (gup Γ g G) D O M ou od j) (((.inl none), (zH I C Y (gup Γ g X) D O M ou od j)) : (Option Value ⊕ String) × px_H) := by
  generalize hM : (((.inl none), (zH I C Y (gup Γ g X) D O M ou od j)) : (Option Value ⊕ String) × px_H) = y
  replace hM := hM.symm
  have hk : pt_mt[217]? = some pt_r217 := rfl
  unfold fG_copyFrom at hx
  refine ev_ls (L' := [some (.ref g), some (.ref go), none]) (st' := [.ref g]) (pc' := 1) hk (.aload_n 0) 1 rfl rfl rfl rfl ?_
  refine ev_gf (.ref (g + 1)) 4 hk rfl rfl (lk_globe hg gup_same) rfl rfl ?_
  refine ev_ls (L' := [some (.ref g), some (.ref go), none]) (st' := [.ref go, .ref (g + 1)]) (pc' := 5) hk (.aload_n 1) 1 rfl rfl rfl rfl ?_
  refine ev_gf (.ref (go + 1)) 8 hk rfl rfl (lk_globe hgo ((gup_ne hne).trans hGo)) rfl rfl ?_
  obtain ⟨G24, hc25, hx⟩ := bnd_some hx
  refine ev_cv 6 1 [] 11 hk rfl rfl rfl rfl (lk_cloth hg gup_same) rfl rfl rfl (rC_copyFrom hg hgo hne hGo hc25) rfl rfl rfl rfl ?_
  refine ev_ls (L' := [some (.ref g), some (.ref go), none]) (st' := [.ref go]) (pc' := 12) hk (.aload_n 1) 1 rfl rfl rfl rfl ?_
  refine ev_gf (.ref (go + 5)) 15 hk rfl rfl (lk_globe hgo ((gup_ne hne).trans hGo)) rfl rfl ?_
  refine ev_op (st' := [.int 0, .ref (go + 5)]) (pc' := 16) hk (.iconst 0) 1 rfl rfl rfl ?_
  refine ev_ls (L' := [some (.ref g), some (.ref go), none]) (st' := [.ref g, .int 0, .ref (go + 5)]) (pc' := 17) hk (.aload_n 0) 1 rfl rfl rfl rfl ?_
  refine ev_gf (.ref (g + 5)) 20 hk rfl rfl (lk_globe hg gup_same) rfl rfl ?_
  refine ev_op (st' := [.int 0, .ref (g + 5), .int 0, .ref (go + 5)]) (pc' := 21) hk (.iconst 0) 1 rfl rfl rfl ?_
  refine ev_op (st' := [.int 9, .int 0, .ref (g + 5), .int 0, .ref (go + 5)]) (pc' := 23) hk (.bipush 9) 2 rfl rfl rfl ?_
  obtain ⟨G26, hG26, hx⟩ := bnd_some hx
  have hG26 := Option.some.inj hG26
  refine ev_acp 26 hk rfl rfl (lk_a5 hgo ((gup_ne hne).trans hGo)) (lk_a5 hg gup_same) (by decide) (sa_g5 hg gup_same hG26 gup_gup) rfl ?_
  refine ev_ls (L' := [some (.ref g), some (.ref go), none]) (st' := [.ref g]) (pc' := 27) hk (.aload_n 0) 1 rfl rfl rfl rfl ?_
  refine ev_ls (L' := [some (.ref g), some (.ref go), none]) (st' := [.ref go, .ref g]) (pc' := 28) hk (.aload_n 1) 1 rfl rfl rfl rfl ?_
  refine ev_gf (.int (gF Go 0 2)) 31 hk rfl rfl (lk_globe hgo ((gup_ne hne).trans hGo)) rfl rfl ?_
  obtain ⟨G27, hG27, hx⟩ := bnd_some hx
  have hG27 := Option.some.inj hG27
  refine ev_pf 34 hk rfl rfl (lk_globe hg gup_same) rfl rfl rfl (sf_1_2 hg  gup_same hG27 gup_gup) rfl ?_
  refine ev_ls (L' := [some (.ref g), some (.ref go), none]) (st' := [.ref g]) (pc' := 35) hk (.aload_n 0) 1 rfl rfl rfl rfl ?_
  refine ev_ls (L' := [some (.ref g), some (.ref go), none]) (st' := [.ref go, .ref g]) (pc' := 36) hk (.aload_n 1) 1 rfl rfl rfl rfl ?_
  refine ev_gf (.int (gF Go 0 3)) 39 hk rfl rfl (lk_globe hgo ((gup_ne hne).trans hGo)) rfl rfl ?_
  obtain ⟨G28, hG28, hx⟩ := bnd_some hx
  have hG28 := Option.some.inj hG28
  refine ev_pf 42 hk rfl rfl (lk_globe hg gup_same) rfl rfl rfl (sf_1_3 hg  gup_same hG28 gup_gup) rfl ?_
  refine ev_ls (L' := [some (.ref g), some (.ref go), none]) (st' := [.ref g]) (pc' := 43) hk (.aload_n 0) 1 rfl rfl rfl rfl ?_
  refine ev_ls (L' := [some (.ref g), some (.ref go), none]) (st' := [.ref go, .ref g]) (pc' := 44) hk (.aload_n 1) 1 rfl rfl rfl rfl ?_
  refine ev_gf (.int (gF Go 0 4)) 47 hk rfl rfl (lk_globe hgo ((gup_ne hne).trans hGo)) rfl rfl ?_
  obtain ⟨G29, hG29, hx⟩ := bnd_some hx
  have hG29 := Option.some.inj hG29
  refine ev_pf 50 hk rfl rfl (lk_globe hg gup_same) rfl rfl rfl (sf_1_4 hg  gup_same hG29 gup_gup) rfl ?_
  refine ev_op (st' := [.int 0]) (pc' := 51) hk (.iconst 0) 1 rfl rfl rfl ?_
  refine ev_ls (L' := [some (.ref g), some (.ref go), some (.int 0)]) (st' := []) (pc' := 52) hk (.istore_n 2) 1 rfl rfl rfl rfl ?_
  exact ev_iter (qG_copyFrom_52 S xs I C Y Γ D O M ou od j g go Go _) (fun X : zG => y = (((.inl none), (zH I C Y (gup Γ g X) D O M ou od j)) : (Option Value ⊕ String) × px_H)) (fun s x hb hM => rG_copyFrom_b52 hg hgo hne hGo hb hM) fu _ _ hx hM 
set_option maxRecDepth 2000 in
theorem rY_forget {S : Nat} {xs : Nat → Int32} {I : zI} {C : zC} {Y : Nat → Int32} {Γ : Nat → zG} {D : zD} {O : Nat → Int32} {M : zM} {ou : Nat → Int64} {od : Nat → UInt64} {j : Nat}  {X : (Nat → Int32)}   (hx : fY_forget Y = some X) : Ev S xs 258 0 [some (.ref 88)] [] (zH I C Y Γ D O M ou od j) (((.inl none), (zH I C X Γ D O M ou od j)) : (Option Value ⊕ String) × px_H) := by
  generalize hM : (((.inl none), (zH I C X Γ D O M ou od j)) : (Option Value ⊕ String) × px_H) = y
  replace hM := hM.symm
  have hk : pt_mt[258]? = some pt_r258 := rfl
  unfold fY_forget at hx
  refine ev_ls (L' := [some (.ref 88)]) (st' := [.ref 88]) (pc' := 1) hk (.aload_n 0) 1 rfl rfl rfl rfl ?_
  refine ev_op (st' := [.int 0, .ref 88]) (pc' := 2) hk (.iconst 0) 1 rfl rfl rfl ?_
  obtain ⟨Y2, hY2, hx⟩ := bnd_some hx
  have hY2 := Option.some.inj hY2
  refine ev_pf 5 hk rfl rfl lk_hist rfl rfl rfl (sf_2_0 hY2) rfl ?_
  cases hx
  obtain rfl := hM
  exact ev_retv hk rfl rfl
set_option maxRecDepth 2000 in
theorem rX_restoreState {S : Nat} {xs : Nat → Int32} {I : zI} {C : zC} {Y : Nat → Int32} {Γ : Nat → zG} {D : zD} {O : Nat → Int32} {M : zM} {ou : Nat → Int64} {od : Nat → UInt64} {j : Nat}  {X : (Int32 ⊕ String) × (Nat → Int32) × (Nat → zG)}   (hx : fX_restoreState Y Γ D = some X) : Ev S xs 351 0 [some (.ref 0)] [] (zH I C Y Γ D O M ou od j) (Sum.elim (fun v => ((.inl (some (.int v))), (zH I C X.2.1 X.2.2 D O M ou od j))) (fun E => (.inr E, (zH I C X.2.1 X.2.2 D O M ou od (j + 1)))) X.1 : (Option Value ⊕ String) × px_H) := by
  generalize hM : (Sum.elim (fun v => ((.inl (some (.int v))), (zH I C X.2.1 X.2.2 D O M ou od j))) (fun E => (.inr E, (zH I C X.2.1 X.2.2 D O M ou od (j + 1)))) X.1 : (Option Value ⊕ String) × px_H) = y
  replace hM := hM.symm
  have hk : pt_mt[351]? = some pt_r351 := rfl
  unfold fX_restoreState at hx
  refine ev_ls (L' := [some (.ref 0)]) (st' := [.ref 0]) (pc' := 1) hk (.aload_n 0) 1 rfl rfl rfl rfl ?_
  refine ev_gf (.int (b2i D.1)) 4 hk rfl rfl lk_dh rfl rfl ?_
  refine ev_d1 18 7 hk rfl rfl rfl rfl (px_bne hx (fun hc hx => ?_) (fun hc hx => ?_))
  · refine ev_ls (L' := [some (.ref 0)]) (st' := [.ref 0]) (pc' := 19) hk (.aload_n 0) 1 rfl rfl rfl rfl ?_
    refine ev_gf (.ref 10) 22 hk rfl rfl lk_dh rfl rfl ?_
    refine ev_ls (L' := [some (.ref 0)]) (st' := [.ref 0, .ref 10]) (pc' := 23) hk (.aload_n 0) 1 rfl rfl rfl rfl ?_
    refine ev_gf (.ref 62) 26 hk rfl rfl lk_dh rfl rfl ?_
    obtain ⟨G1, hc2, hx⟩ := bnd_some hx
    refine ev_cv 217 1 [] 29 hk rfl rfl rfl rfl (lk_globe isG_10 rfl) rfl rfl rfl (ev_gs (rG_copyFrom isG_10 isG_62 (by decide) rfl hc2)) rfl rfl rfl rfl ?_
    refine ev_ls (L' := [some (.ref 0)]) (st' := [.ref 0]) (pc' := 30) hk (.aload_n 0) 1 rfl rfl rfl rfl ?_
    refine ev_gf (.ref 88) 33 hk rfl rfl lk_dh rfl rfl ?_
    obtain ⟨Y3, hc4, hx⟩ := bnd_some hx
    refine ev_cv 258 0 [] 36 hk rfl rfl rfl rfl lk_hist rfl rfl rfl (rY_forget hc4) rfl rfl rfl rfl ?_
    refine ev_ls (L' := [some (.ref 0)]) (st' := [.ref 0]) (pc' := 37) hk (.aload_n 0) 1 rfl rfl rfl rfl ?_
    refine ev_gf (.ref 10) 40 hk rfl rfl lk_dh rfl rfl ?_
    refine ev_gf (.int (gF ((gup Γ 10 G1) 10) 0 2)) 43 hk rfl rfl (lk_globe isG_10 rfl) rfl rfl ?_
    cases hx
    obtain rfl := hM
    exact ev_retI hk rfl rfl
  · cases hx
    obtain rfl := hM
    exact ev_tw hk rfl (by rfl) rfl zH_j
set_option maxRecDepth 2000 in
theorem rw_restoreState {S : Nat} {xs : Nat → Int32} {I : zI} {C : zC} {Y : Nat → Int32} {Γ : Nat → zG} {D : zD} {O : Nat → Int32} {M : zM} {ou : Nat → Int64} {od : Nat → UInt64} {j : Nat}  {X : Int32 × (Nat → Int32) × (Nat → zG) × (Nat → Int64) × Nat}   (hx : fw_restoreState Y Γ D ou j = some X) : Ev S xs 400 0 [some (.ref 0), some (.ref 261), none] [] (zH I C Y Γ D O M ou od j) (((.inl (some (.int X.1))), (zH I C X.2.1 X.2.2.1 D O M X.2.2.2.1 od X.2.2.2.2)) : (Option Value ⊕ String) × px_H) := by
  generalize hM : (((.inl (some (.int X.1))), (zH I C X.2.1 X.2.2.1 D O M X.2.2.2.1 od X.2.2.2.2)) : (Option Value ⊕ String) × px_H) = y
  replace hM := hM.symm
  have hk : pt_mt[400]? = some pt_r400 := rfl
  unfold fw_restoreState at hx
  refine ev_ls (L' := [some (.ref 0), some (.ref 261), none]) (st' := [.ref 261]) (pc' := 1) hk (.aload_n 1) 1 rfl rfl rfl rfl ?_
  refine ev_op (st' := [.int 0, .ref 261]) (pc' := 2) hk (.iconst 0) 1 rfl rfl rfl ?_
  refine ev_ls (L' := [some (.ref 0), some (.ref 261), none]) (st' := [.ref 0, .int 0, .ref 261]) (pc' := 3) hk (.aload_n 0) 1 rfl rfl rfl rfl ?_
  obtain ⟨r8, Y2, Γ3, hc4, hx⟩ := bnd3_some hx
  rcases r8 with v6 | E5
  · simp only [Sum.elim_inl] at hx
    refine ev_cv 351 0 [.int v6, .int 0, .ref 261] 6 hk rfl rfl rfl rfl lk_dh rfl rfl rfl (rX_restoreState hc4) rfl rfl rfl rfl ?_
    refine ev_op (st' := [.long (Int32.toInt64 v6), .int 0, .ref 261]) (pc' := 7) hk (.i2l) 1 rfl rfl rfl ?_
    obtain ⟨ou7, hou7, hx⟩ := bnd_some hx
    have hou7 := Option.some.inj hou7
    refine ev_las (A := (vp_updL ou 0 (Int32.toInt64 v6))) rfl 8 hk rfl lk_ou (sa_ou hou7) rfl ?_
    refine ev_jp (pc' := 14) (st' := []) hk (.goto 6) 3 rfl rfl rfl rfl rfl ?_
    refine ev_op (st' := [.int 0]) (pc' := 15) hk (.iconst 0) 1 rfl rfl rfl ?_
    cases hx
    obtain rfl := hM
    exact ev_retI hk rfl rfl
  · simp only [Sum.elim_inr] at hx
    rcases ite_or hx with ⟨hE, hx⟩ | ⟨hE, hx⟩
    · subst hE
      refine ev_cvC 351 0 12 hk rfl rfl rfl rfl lk_dh rfl rfl rfl (t := 11) (by decide +kernel) (L' := [some (.ref 0), some (.ref 261), none]) rfl (rX_restoreState hc4) rfl rfl ?_
      refine ev_op (st' := [.int 1]) (pc' := 13) hk (.iconst 1) 1 rfl rfl rfl ?_
      cases hx
      obtain rfl := hM
      exact ev_retI hk rfl rfl
    cases hx
set_option maxRecDepth 2000 in
theorem rM_truth {S : Nat} {xs : Nat → Int32} {I : zI} {C : zC} {Y : Nat → Int32} {Γ : Nat → zG} {D : zD} {O : Nat → Int32} {M : zM} {ou : Nat → Int64} {od : Nat → UInt64} {j : Nat} {a0 : Bool} {X : Int32}   (hx : fM_truth a0 = X) : Ev S xs 189 0 [some (.int (b2i a0))] [] (zH I C Y Γ D O M ou od j) (((.inl (some (.int X))), (zH I C Y Γ D O M ou od j)) : (Option Value ⊕ String) × px_H) := by
  generalize hM : (((.inl (some (.int X))), (zH I C Y Γ D O M ou od j)) : (Option Value ⊕ String) × px_H) = y
  replace hM := hM.symm
  have hk : pt_mt[189]? = some pt_r189 := rfl
  unfold fM_truth at hx
  refine ev_ls (L' := [some (.int (b2i a0))]) (st' := [.int (b2i a0)]) (pc' := 1) hk (.iload_n 0) 1 rfl rfl rfl rfl ?_
  refine ev_d1 8 4 hk rfl rfl rfl rfl (px_beq hx (fun hc hx => ?_) (fun hc hx => ?_))
  · refine ev_op (st' := [.int 0]) (pc' := 9) hk (.iconst 0) 1 rfl rfl rfl ?_
    cases hx
    obtain rfl := hM
    exact ev_retI hk rfl rfl
  · refine ev_op (st' := [.int 1]) (pc' := 5) hk (.iconst 1) 1 rfl rfl rfl ?_
    refine ev_jp (pc' := 9) (st' := [.int 1]) hk (.goto 4) 3 rfl rfl rfl rfl rfl ?_
    cases hx
    obtain rfl := hM
    exact ev_retI hk rfl rfl
set_option maxRecDepth 4000 in
theorem rM_goes_j10 {S : Nat} {xs : Nat → Int32} {I : zI} {C : zC} {Y : Nat → Int32} {Γ : Nat → zG} {D : zD} {O : Nat → Int32} {M : zM} {ou : Nat → Int64} {od : Nat → UInt64} {j : Nat} {a1 : Bool} {a0t : Bool} {y : (Option Value ⊕ String) × px_H} {x : Bool × zM}  (hx : fM_goes_j10 M a1 a0t = some x) (hM : (fun X : Bool × zM => y = (((.inl (some (.int (b2i X.1)))), (zH I C Y Γ D O X.2 ou od j)) : (Option Value ⊕ String) × px_H)) x) (u0 : Option Value) (hu0 : px_cz u0 = true) : Ev S xs 59 10 [u0, some (.int (b2i a1))] [.int (b2i a0t), .ref 247] (zH I C Y Γ D O M ou od j) y := by
  have hk : pt_mt[59]? = some pt_r59 := rfl
  unfold fM_goes_j10 at hx
  refine ev_cs 189 1 [.int (fM_truth a0t), .ref 247] 13 hk rfl rfl (by decide) rfl rfl rfl (rM_truth rfl) rfl rfl rfl rfl ?_
  obtain ⟨M3, hM3, hx⟩ := bnd_some hx
  have hM3 := Option.some.inj hM3
  refine ev_pf 16 hk rfl rfl lk_model rfl rfl rfl (sf_8_0 hM3) rfl ?_
  refine ev_ls (L' := [u0, some (.int (b2i a1))]) (st' := [.int (b2i a1)]) (pc' := 17) hk (.iload_n 1) 1 rfl rfl rfl rfl ?_
  cases hx
  obtain rfl := hM
  exact ev_retZ _ rfl hk rfl rfl
set_option maxRecDepth 2000 in
theorem rM_goes {S : Nat} {xs : Nat → Int32} {I : zI} {C : zC} {Y : Nat → Int32} {Γ : Nat → zG} {D : zD} {O : Nat → Int32} {M : zM} {ou : Nat → Int64} {od : Nat → UInt64} {j : Nat} {a1 : Bool} {X : Bool × zM}   (hx : fM_goes M a1 = some X) : Ev S xs 59 0 [some (.ref 247), some (.int (b2i a1))] [] (zH I C Y Γ D O M ou od j) (((.inl (some (.int (b2i X.1)))), (zH I C Y Γ D O X.2 ou od j)) : (Option Value ⊕ String) × px_H) := by
  generalize hM : (((.inl (some (.int (b2i X.1)))), (zH I C Y Γ D O X.2 ou od j)) : (Option Value ⊕ String) × px_H) = y
  replace hM := hM.symm
  have hk : pt_mt[59]? = some pt_r59 := rfl
  unfold fM_goes at hx
  refine ev_ls (L' := [some (.ref 247), some (.int (b2i a1))]) (st' := [.ref 247]) (pc' := 1) hk (.aload_n 0) 1 rfl rfl rfl rfl ?_
  refine ev_ls (L' := [some (.ref 247), some (.int (b2i a1))]) (st' := [.int (b2i a1), .ref 247]) (pc' := 2) hk (.iload_n 1) 1 rfl rfl rfl rfl ?_
  refine ev_d1 9 5 hk rfl rfl rfl rfl (px_bne hx (fun hc hx => ?_) (fun hc hx => ?_))
  · refine ev_op (st' := [.int 0, .ref 247]) (pc' := 10) hk (.iconst 0) 1 rfl rfl rfl ?_
    exact rM_goes_j10 hx hM (some (.ref 247)) rfl
  · refine ev_op (st' := [.int 1, .ref 247]) (pc' := 6) hk (.iconst 1) 1 rfl rfl rfl ?_
    refine ev_jp (pc' := 10) (st' := [.int 1, .ref 247]) hk (.goto 4) 3 rfl rfl rfl rfl rfl ?_
    exact rM_goes_j10 hx hM (some (.ref 247)) rfl
def qM_copiesRow_3 (S : Nat) (xs : Nat → Int32) (I : zI) (C : zC) (Y : Nat → Int32) (Γ : Nat → zG) (D : zD) (O : Nat → Int32) (ou : Nat → Int64) (od : Nat → UInt64) (j : Nat) (a0 : Nat) (a1 : Int32) (a2 : Nat) (a3 : Int32) (y : (Option Value ⊕ String) × px_H) (s : zM × Int32) : Prop := Ev S xs 37 3 [some (.ref a0), some (.int a1), some (.ref a2), some (.int a3), some (.int s.2)] [] (zH I C Y Γ D O s.1 ou od j) y
set_option maxRecDepth 4000 in
theorem rM_copiesRow_b3 {S : Nat} {xs : Nat → Int32} {I : zI} {C : zC} {Y : Nat → Int32} {Γ : Nat → zG} {D : zD} {O : Nat → Int32} {ou : Nat → Int64} {od : Nat → UInt64} {j : Nat} {a0 : Nat} {a1 : Int32} {a2 : Nat} {a3 : Int32} {y : (Option Value ⊕ String) × px_H} {s : zM × Int32} {x : (zM × Int32) ⊕ (zM)} (ha0 : isMA a0) (ha2 : isMA a2) (hx : fM_copiesRow_b3 a0 a1 a2 a3 s.1 s.2 = some x) (hM : (Sum.elim (qM_copiesRow_3 S xs I C Y Γ D O ou od j a0 a1 a2 a3 y) (fun X : zM => y = (((.inl none), (zH I C Y Γ D O X ou od j)) : (Option Value ⊕ String) × px_H))) x) : qM_copiesRow_3 S xs I C Y Γ D O ou od j a0 a1 a2 a3 y s := by
  obtain ⟨M, a4⟩ := s
  have hk : pt_mt[37]? = some pt_r37 := rfl
  unfold fM_copiesRow_b3 at hx
  try dsimp only at hx
  refine ev_ls (L' := [some (.ref a0), some (.int a1), some (.ref a2), some (.int a3), some (.int a4)]) (st' := [.int a4]) (pc' := 5) hk (.iload 4) 2 rfl rfl rfl rfl ?_
  refine ev_op (st' := [.int 160, .int a4]) (pc' := 8) hk (.sipush 160) 3 rfl rfl rfl ?_
  refine ev_d2 29 11 hk rfl rfl rfl rfl (px_cge hx (fun hc hx => ?_) (fun hc hx => ?_))
  · cases hx
    obtain rfl := hM
    exact ev_retv hk rfl rfl
  · refine ev_ls (L' := [some (.ref a0), some (.int a1), some (.ref a2), some (.int a3), some (.int a4)]) (st' := [.ref a2]) (pc' := 12) hk (.aload_n 2) 1 rfl rfl rfl rfl ?_
    refine ev_ls (L' := [some (.ref a0), some (.int a1), some (.ref a2), some (.int a3), some (.int a4)]) (st' := [.int a3, .ref a2]) (pc' := 13) hk (.iload_n 3) 1 rfl rfl rfl rfl ?_
    refine ev_ls (L' := [some (.ref a0), some (.int a1), some (.ref a2), some (.int a3), some (.int a4)]) (st' := [.int a4, .int a3, .ref a2]) (pc' := 15) hk (.iload 4) 2 rfl rfl rfl rfl ?_
    refine ev_op (st' := [.int (a3 + a4), .ref a2]) (pc' := 16) hk (.iadd) 1 rfl rfl rfl ?_
    refine ev_ls (L' := [some (.ref a0), some (.int a1), some (.ref a2), some (.int a3), some (.int a4)]) (st' := [.ref a0, .int (a3 + a4), .ref a2]) (pc' := 17) hk (.aload_n 0) 1 rfl rfl rfl rfl ?_
    refine ev_ls (L' := [some (.ref a0), some (.int a1), some (.ref a2), some (.int a3), some (.int a4)]) (st' := [.int a1, .ref a0, .int (a3 + a4), .ref a2]) (pc' := 18) hk (.iload_n 1) 1 rfl rfl rfl rfl ?_
    refine ev_ls (L' := [some (.ref a0), some (.int a1), some (.ref a2), some (.int a3), some (.int a4)]) (st' := [.int a4, .int a1, .ref a0, .int (a3 + a4), .ref a2]) (pc' := 20) hk (.iload 4) 2 rfl rfl rfl rfl ?_
    refine ev_op (st' := [.int (a1 + a4), .ref a0, .int (a3 + a4), .ref a2]) (pc' := 21) hk (.iadd) 1 rfl rfl rfl ?_
    obtain ⟨v7, hv7, hx⟩ := bnd_some hx
    refine ev_ial hv7 22 hk rfl (lk_ma ha0) rfl ?_
    obtain ⟨A8, hA8, hx⟩ := bnd_some hx
    obtain ⟨M9, hM9, hx⟩ := bnd_some hx
    have hM9 := Option.some.inj hM9
    refine ev_ias hA8 23 hk rfl (lk_ma ha2) (sa_ma ha2 hM9) rfl ?_
    refine ev_ls (L' := [some (.ref a0), some (.int a1), some (.ref a2), some (.int a3), some (.int (a4 + 1))]) (st' := []) (pc' := 26) hk (.iinc 4 1) 3 rfl rfl rfl rfl ?_
    refine ev_jp (pc' := 3) (st' := []) hk (.goto (-23)) 3 rfl rfl rfl rfl rfl ?_
    cases hx
    exact hM
set_option maxRecDepth 2000 in
theorem rM_copiesRow {S : Nat} {xs : Nat → Int32} {I : zI} {C : zC} {Y : Nat → Int32} {Γ : Nat → zG} {D : zD} {O : Nat → Int32} {M : zM} {ou : Nat → Int64} {od : Nat → UInt64} {j : Nat} {a0 : Nat} {a1 : Int32} {a2 : Nat} {a3 : Int32} {X : zM}  (ha0 : isMA a0) (ha2 : isMA a2) (hx : fM_copiesRow M a0 a1 a2 a3 = some X) : Ev S xs 37 0 [some (.ref a0), some (.int a1), some (.ref a2), some (.int a3), none] [] (zH I C Y Γ D O M ou od j) (((.inl none), (zH I C Y Γ D O X ou od j)) : (Option Value ⊕ String) × px_H) := by
  generalize hM : (((.inl none), (zH I C Y Γ D O X ou od j)) : (Option Value ⊕ String) × px_H) = y
  replace hM := hM.symm
  have hk : pt_mt[37]? = some pt_r37 := rfl
  unfold fM_copiesRow at hx
  refine ev_op (st' := [.int 0]) (pc' := 1) hk (.iconst 0) 1 rfl rfl rfl ?_
  refine ev_ls (L' := [some (.ref a0), some (.int a1), some (.ref a2), some (.int a3), some (.int 0)]) (st' := []) (pc' := 3) hk (.istore 4) 2 rfl rfl rfl rfl ?_
  exact ev_iter (qM_copiesRow_3 S xs I C Y Γ D O ou od j a0 a1 a2 a3 _) (fun X : zM => y = (((.inl none), (zH I C Y Γ D O X ou od j)) : (Option Value ⊕ String) × px_H)) (fun s x hb hM => rM_copiesRow_b3 ha0 ha2 hb hM) fu _ _ hx hM 
set_option maxRecDepth 2000 in
theorem rM_restoreState {S : Nat} {xs : Nat → Int32} {I : zI} {C : zC} {Y : Nat → Int32} {Γ : Nat → zG} {D : zD} {O : Nat → Int32} {M : zM} {ou : Nat → Int64} {od : Nat → UInt64} {j : Nat}  {X : Int32 × zM}   (hx : fM_restoreState M = some X) : Ev S xs 155 0 [some (.ref 247)] [] (zH I C Y Γ D O M ou od j) (((.inl (some (.int X.1))), (zH I C Y Γ D O X.2 ou od j)) : (Option Value ⊕ String) × px_H) := by
  generalize hM : (((.inl (some (.int X.1))), (zH I C Y Γ D O X.2 ou od j)) : (Option Value ⊕ String) × px_H) = y
  replace hM := hM.symm
  have hk : pt_mt[155]? = some pt_r155 := rfl
  unfold fM_restoreState at hx
  refine ev_ls (L' := [some (.ref 247)]) (st' := [.ref 247]) (pc' := 1) hk (.aload_n 0) 1 rfl rfl rfl rfl ?_
  refine ev_ls (L' := [some (.ref 247)]) (st' := [.ref 247, .ref 247]) (pc' := 2) hk (.aload_n 0) 1 rfl rfl rfl rfl ?_
  refine ev_gf (.int (b2i (mB M))) 5 hk rfl rfl lk_model rfl rfl ?_
  obtain ⟨v3, M2, hc4, hx⟩ := bnd2_some hx
  refine ev_cv 59 1 [.int (b2i v3)] 8 hk rfl rfl rfl rfl lk_model rfl rfl rfl (rM_goes hc4) rfl rfl rfl rfl ?_
  refine ev_d1 13 11 hk rfl rfl rfl rfl (px_bne hx (fun hc hx => ?_) (fun hc hx => ?_))
  · refine ev_ls (L' := [some (.ref 247)]) (st' := [.ref 247]) (pc' := 14) hk (.aload_n 0) 1 rfl rfl rfl rfl ?_
    refine ev_gf (.ref 250) 17 hk rfl rfl lk_model rfl rfl ?_
    refine ev_op (st' := [.int 0, .ref 250]) (pc' := 18) hk (.iconst 0) 1 rfl rfl rfl ?_
    refine ev_ls (L' := [some (.ref 247)]) (st' := [.ref 247, .int 0, .ref 250]) (pc' := 19) hk (.aload_n 0) 1 rfl rfl rfl rfl ?_
    refine ev_gf (.ref 249) 22 hk rfl rfl lk_model rfl rfl ?_
    refine ev_op (st' := [.int 0, .ref 249, .int 0, .ref 250]) (pc' := 23) hk (.iconst 0) 1 rfl rfl rfl ?_
    obtain ⟨M5, hc6, hx⟩ := bnd_some hx
    refine ev_cs 37 4 [] 26 hk rfl rfl (by decide) rfl rfl rfl (rM_copiesRow (ma_250) (ma_249) hc6) rfl rfl rfl rfl ?_
    refine ev_ls (L' := [some (.ref 247)]) (st' := [.ref 247]) (pc' := 27) hk (.aload_n 0) 1 rfl rfl rfl rfl ?_
    refine ev_op (st' := [.int 0, .ref 247]) (pc' := 28) hk (.iconst 0) 1 rfl rfl rfl ?_
    obtain ⟨M7, hM7, hx⟩ := bnd_some hx
    have hM7 := Option.some.inj hM7
    refine ev_pf 31 hk rfl rfl lk_model rfl rfl rfl (sf_8_18 hM7) rfl ?_
    refine ev_ls (L' := [some (.ref 247)]) (st' := [.ref 247]) (pc' := 32) hk (.aload_n 0) 1 rfl rfl rfl rfl ?_
    refine ev_gf (.ref 249) 35 hk rfl rfl lk_model rfl rfl ?_
    refine ev_op (st' := [.int 4, .ref 249]) (pc' := 36) hk (.iconst 4) 1 rfl rfl rfl ?_
    refine ev_ial (v := ((mA M7 249) 4)) rfl 37 hk rfl lk_m249 rfl ?_
    cases hx
    obtain rfl := hM
    exact ev_retI hk rfl rfl
  · refine ev_op (st' := [.int 0]) (pc' := 12) hk (.iconst 0) 1 rfl rfl rfl ?_
    cases hx
    obtain rfl := hM
    exact ev_retI hk rfl rfl
set_option maxRecDepth 2000 in
theorem rM_thrown {S : Nat} {xs : Nat → Int32} {I : zI} {C : zC} {Y : Nat → Int32} {Γ : Nat → zG} {D : zD} {O : Nat → Int32} {M : zM} {ou : Nat → Int64} {od : Nat → UInt64} {j : Nat}  {X : Int32}   (hx : fM_thrown M = X) : Ev S xs 183 0 [some (.ref 247)] [] (zH I C Y Γ D O M ou od j) (((.inl (some (.int X))), (zH I C Y Γ D O M ou od j)) : (Option Value ⊕ String) × px_H) := by
  generalize hM : (((.inl (some (.int X))), (zH I C Y Γ D O M ou od j)) : (Option Value ⊕ String) × px_H) = y
  replace hM := hM.symm
  have hk : pt_mt[183]? = some pt_r183 := rfl
  unfold fM_thrown at hx
  refine ev_ls (L' := [some (.ref 247)]) (st' := [.ref 247]) (pc' := 1) hk (.aload_n 0) 1 rfl rfl rfl rfl ?_
  refine ev_gf (.int (mF M 0)) 4 hk rfl rfl lk_model rfl rfl ?_
  cases hx
  obtain rfl := hM
  exact ev_retI hk rfl rfl
set_option maxRecDepth 2000 in
theorem rX_saveState {S : Nat} {xs : Nat → Int32} {I : zI} {C : zC} {Y : Nat → Int32} {Γ : Nat → zG} {D : zD} {O : Nat → Int32} {M : zM} {ou : Nat → Int64} {od : Nat → UInt64} {j : Nat}  {X : Int32 × (Nat → zG) × zD}   (hx : fX_saveState Γ D = some X) : Ev S xs 354 0 [some (.ref 0)] [] (zH I C Y Γ D O M ou od j) (((.inl (some (.int X.1))), (zH I C Y X.2.1 X.2.2 O M ou od j)) : (Option Value ⊕ String) × px_H) := by
  generalize hM : (((.inl (some (.int X.1))), (zH I C Y X.2.1 X.2.2 O M ou od j)) : (Option Value ⊕ String) × px_H) = y
  replace hM := hM.symm
  have hk : pt_mt[354]? = some pt_r354 := rfl
  unfold fX_saveState at hx
  refine ev_ls (L' := [some (.ref 0)]) (st' := [.ref 0]) (pc' := 1) hk (.aload_n 0) 1 rfl rfl rfl rfl ?_
  refine ev_gf (.ref 62) 4 hk rfl rfl lk_dh rfl rfl ?_
  refine ev_ls (L' := [some (.ref 0)]) (st' := [.ref 0, .ref 62]) (pc' := 5) hk (.aload_n 0) 1 rfl rfl rfl rfl ?_
  refine ev_gf (.ref 10) 8 hk rfl rfl lk_dh rfl rfl ?_
  obtain ⟨G2, hc3, hx⟩ := bnd_some hx
  refine ev_cv 217 1 [] 11 hk rfl rfl rfl rfl (lk_globe isG_62 rfl) rfl rfl rfl (ev_gs (rG_copyFrom isG_62 isG_10 (by decide) rfl hc3)) rfl rfl rfl rfl ?_
  refine ev_ls (L' := [some (.ref 0)]) (st' := [.ref 0]) (pc' := 12) hk (.aload_n 0) 1 rfl rfl rfl rfl ?_
  refine ev_op (st' := [.int 1, .ref 0]) (pc' := 13) hk (.iconst 1) 1 rfl rfl rfl ?_
  obtain ⟨D4, hD4, hx⟩ := bnd_some hx
  have hD4 := Option.some.inj hD4
  refine ev_pf 16 hk rfl rfl lk_dh rfl rfl rfl (sf_7_5 hD4) rfl ?_
  refine ev_ls (L' := [some (.ref 0)]) (st' := [.ref 0]) (pc' := 17) hk (.aload_n 0) 1 rfl rfl rfl rfl ?_
  refine ev_gf (.ref 10) 20 hk rfl rfl lk_dh rfl rfl ?_
  refine ev_gf (.int (gF ((gup Γ 62 G2) 10) 0 2)) 23 hk rfl rfl (lk_globe isG_10 rfl) rfl rfl ?_
  cases hx
  obtain rfl := hM
  exact ev_retI hk rfl rfl
set_option maxRecDepth 2000 in
theorem rM_saveState {S : Nat} {xs : Nat → Int32} {I : zI} {C : zC} {Y : Nat → Int32} {Γ : Nat → zG} {D : zD} {O : Nat → Int32} {M : zM} {ou : Nat → Int64} {od : Nat → UInt64} {j : Nat}  {X : Int32 × zM}   (hx : fM_saveState M = some X) : Ev S xs 160 0 [some (.ref 247)] [] (zH I C Y Γ D O M ou od j) (((.inl (some (.int X.1))), (zH I C Y Γ D O X.2 ou od j)) : (Option Value ⊕ String) × px_H) := by
  generalize hM : (((.inl (some (.int X.1))), (zH I C Y Γ D O X.2 ou od j)) : (Option Value ⊕ String) × px_H) = y
  replace hM := hM.symm
  have hk : pt_mt[160]? = some pt_r160 := rfl
  unfold fM_saveState at hx
  refine ev_ls (L' := [some (.ref 247)]) (st' := [.ref 247]) (pc' := 1) hk (.aload_n 0) 1 rfl rfl rfl rfl ?_
  refine ev_op (st' := [.int 0, .ref 247]) (pc' := 2) hk (.iconst 0) 1 rfl rfl rfl ?_
  obtain ⟨M3, hM3, hx⟩ := bnd_some hx
  have hM3 := Option.some.inj hM3
  refine ev_pf 5 hk rfl rfl lk_model rfl rfl rfl (sf_8_0 hM3) rfl ?_
  refine ev_ls (L' := [some (.ref 247)]) (st' := [.ref 247]) (pc' := 6) hk (.aload_n 0) 1 rfl rfl rfl rfl ?_
  refine ev_gf (.ref 249) 9 hk rfl rfl lk_model rfl rfl ?_
  refine ev_op (st' := [.int 0, .ref 249]) (pc' := 10) hk (.iconst 0) 1 rfl rfl rfl ?_
  refine ev_ls (L' := [some (.ref 247)]) (st' := [.ref 247, .int 0, .ref 249]) (pc' := 11) hk (.aload_n 0) 1 rfl rfl rfl rfl ?_
  refine ev_gf (.ref 250) 14 hk rfl rfl lk_model rfl rfl ?_
  refine ev_op (st' := [.int 0, .ref 250, .int 0, .ref 249]) (pc' := 15) hk (.iconst 0) 1 rfl rfl rfl ?_
  obtain ⟨M4, hc5, hx⟩ := bnd_some hx
  refine ev_cs 37 4 [] 18 hk rfl rfl (by decide) rfl rfl rfl (rM_copiesRow (ma_249) (ma_250) hc5) rfl rfl rfl rfl ?_
  refine ev_ls (L' := [some (.ref 247)]) (st' := [.ref 247]) (pc' := 19) hk (.aload_n 0) 1 rfl rfl rfl rfl ?_
  refine ev_op (st' := [.int 1, .ref 247]) (pc' := 20) hk (.iconst 1) 1 rfl rfl rfl ?_
  obtain ⟨M6, hM6, hx⟩ := bnd_some hx
  have hM6 := Option.some.inj hM6
  refine ev_pf 23 hk rfl rfl lk_model rfl rfl rfl (sf_8_19 hM6) rfl ?_
  refine ev_ls (L' := [some (.ref 247)]) (st' := [.ref 247]) (pc' := 24) hk (.aload_n 0) 1 rfl rfl rfl rfl ?_
  refine ev_gf (.ref 249) 27 hk rfl rfl lk_model rfl rfl ?_
  refine ev_op (st' := [.int 4, .ref 249]) (pc' := 28) hk (.iconst 4) 1 rfl rfl rfl ?_
  refine ev_ial (v := ((mA M6 249) 4)) rfl 29 hk rfl lk_m249 rfl ?_
  cases hx
  obtain rfl := hM
  exact ev_retI hk rfl rfl
set_option maxRecDepth 4000 in
theorem rX_outputByte_j12 {S : Nat} {xs : Nat → Int32} {I : zI} {C : zC} {Y : Nat → Int32} {Γ : Nat → zG} {D : zD} {O : Nat → Int32} {M : zM} {ou : Nat → Int64} {od : Nat → UInt64} {j : Nat}  {y : (Option Value ⊕ String) × px_H} {x : (Int32 ⊕ String)}  (hx : fX_outputByte_j12 D O = some x) (hM : (fun X : (Int32 ⊕ String) => y = (Sum.elim (fun v => ((.inl (some (.int v))), (zH I C Y Γ D O M ou od j))) (fun E => (.inr E, (zH I C Y Γ D O M ou od (j + 1)))) X : (Option Value ⊕ String) × px_H)) x) (u0 : Option Value) (hu0 : px_cz u0 = true) (u1 : Option Value) (hu1 : px_cz u1 = true) : Ev S xs 346 12 [u0, u1] [] (zH I C Y Γ D O M ou od j) y := by
  have hk : pt_mt[346]? = some pt_r346 := rfl
  unfold fX_outputByte_j12 at hx
  cases hx
  obtain rfl := hM
  exact ev_tw hk rfl (by rfl) rfl zH_j
set_option maxRecDepth 2000 in
theorem rX_outputByte {S : Nat} {xs : Nat → Int32} {I : zI} {C : zC} {Y : Nat → Int32} {Γ : Nat → zG} {D : zD} {O : Nat → Int32} {M : zM} {ou : Nat → Int64} {od : Nat → UInt64} {j : Nat} {a1 : Int32} {X : (Int32 ⊕ String)}   (hx : fX_outputByte D O a1 = some X) : Ev S xs 346 0 [some (.ref 0), some (.int a1)] [] (zH I C Y Γ D O M ou od j) (Sum.elim (fun v => ((.inl (some (.int v))), (zH I C Y Γ D O M ou od j))) (fun E => (.inr E, (zH I C Y Γ D O M ou od (j + 1)))) X : (Option Value ⊕ String) × px_H) := by
  generalize hM : (Sum.elim (fun v => ((.inl (some (.int v))), (zH I C Y Γ D O M ou od j))) (fun E => (.inr E, (zH I C Y Γ D O M ou od (j + 1)))) X : (Option Value ⊕ String) × px_H) = y
  replace hM := hM.symm
  have hk : pt_mt[346]? = some pt_r346 := rfl
  unfold fX_outputByte at hx
  refine ev_ls (L' := [some (.ref 0), some (.int a1)]) (st' := [.int a1]) (pc' := 1) hk (.iload_n 1) 1 rfl rfl rfl rfl ?_
  refine ev_d1 12 4 hk rfl rfl rfl rfl (px_clt hx (fun hc hx => ?_) (fun hc hx => ?_))
  · exact rX_outputByte_j12 hx hM (some (.ref 0)) rfl (some (.int a1)) rfl
  · refine ev_ls (L' := [some (.ref 0), some (.int a1)]) (st' := [.int a1]) (pc' := 5) hk (.iload_n 1) 1 rfl rfl rfl rfl ?_
    refine ev_ls (L' := [some (.ref 0), some (.int a1)]) (st' := [.ref 0, .int a1]) (pc' := 6) hk (.aload_n 0) 1 rfl rfl rfl rfl ?_
    refine ev_gf (.int D.2) 9 hk rfl rfl lk_dh rfl rfl ?_
    refine ev_d2 23 12 hk rfl rfl rfl rfl (px_clt hx (fun hc hx => ?_) (fun hc hx => ?_))
    · refine ev_ls (L' := [some (.ref 0), some (.int a1)]) (st' := [.ref 0]) (pc' := 24) hk (.aload_n 0) 1 rfl rfl rfl rfl ?_
      refine ev_gf (.ref 246) 27 hk rfl rfl lk_dh rfl rfl ?_
      refine ev_ls (L' := [some (.ref 0), some (.int a1)]) (st' := [.int a1, .ref 246]) (pc' := 28) hk (.iload_n 1) 1 rfl rfl rfl rfl ?_
      obtain ⟨v2, hv2, hx⟩ := bnd_some hx
      refine ev_bal hv2 29 hk rfl lk_out rfl ?_
      cases hx
      obtain rfl := hM
      exact ev_retI hk rfl rfl
    · exact rX_outputByte_j12 hx hM (some (.ref 0)) rfl (some (.int a1)) rfl
set_option maxRecDepth 2000 in
theorem rw_outputByte {S : Nat} {xs : Nat → Int32} {I : zI} {C : zC} {Y : Nat → Int32} {Γ : Nat → zG} {D : zD} {O : Nat → Int32} {M : zM} {ou : Nat → Int64} {od : Nat → UInt64} {j : Nat} {a1 : Int32} {X : Int32 × (Nat → Int64) × Nat}   (hx : fw_outputByte D O ou j a1 = some X) : Ev S xs 396 0 [some (.ref 0), some (.int a1), some (.ref 261), none] [] (zH I C Y Γ D O M ou od j) (((.inl (some (.int X.1))), (zH I C Y Γ D O M X.2.1 od X.2.2)) : (Option Value ⊕ String) × px_H) := by
  generalize hM : (((.inl (some (.int X.1))), (zH I C Y Γ D O M X.2.1 od X.2.2)) : (Option Value ⊕ String) × px_H) = y
  replace hM := hM.symm
  have hk : pt_mt[396]? = some pt_r396 := rfl
  unfold fw_outputByte at hx
  refine ev_ls (L' := [some (.ref 0), some (.int a1), some (.ref 261), none]) (st' := [.ref 261]) (pc' := 1) hk (.aload_n 2) 1 rfl rfl rfl rfl ?_
  refine ev_op (st' := [.int 0, .ref 261]) (pc' := 2) hk (.iconst 0) 1 rfl rfl rfl ?_
  refine ev_ls (L' := [some (.ref 0), some (.int a1), some (.ref 261), none]) (st' := [.ref 0, .int 0, .ref 261]) (pc' := 3) hk (.aload_n 0) 1 rfl rfl rfl rfl ?_
  refine ev_ls (L' := [some (.ref 0), some (.int a1), some (.ref 261), none]) (st' := [.int a1, .ref 0, .int 0, .ref 261]) (pc' := 4) hk (.iload_n 1) 1 rfl rfl rfl rfl ?_
  rcases bnx_some hx with ⟨v4, hc2, hx⟩ | ⟨E3, hc2, hx⟩
  · skip
    refine ev_cv 346 1 [.int v4, .int 0, .ref 261] 7 hk rfl rfl rfl rfl lk_dh rfl rfl rfl (rX_outputByte hc2) rfl rfl rfl rfl ?_
    refine ev_op (st' := [.long (Int32.toInt64 v4), .int 0, .ref 261]) (pc' := 8) hk (.i2l) 1 rfl rfl rfl ?_
    obtain ⟨ou5, hou5, hx⟩ := bnd_some hx
    have hou5 := Option.some.inj hou5
    refine ev_las (A := (vp_updL ou 0 (Int32.toInt64 v4))) rfl 9 hk rfl lk_ou (sa_ou hou5) rfl ?_
    refine ev_jp (pc' := 15) (st' := []) hk (.goto 6) 3 rfl rfl rfl rfl rfl ?_
    refine ev_op (st' := [.int 0]) (pc' := 16) hk (.iconst 0) 1 rfl rfl rfl ?_
    cases hx
    obtain rfl := hM
    exact ev_retI hk rfl rfl
  · skip
    rcases ite_or hx with ⟨hE, hx⟩ | ⟨hE, hx⟩
    · subst hE
      refine ev_cvC 346 1 13 hk rfl rfl rfl rfl lk_dh rfl rfl rfl (t := 12) (by decide +kernel) (L' := [some (.ref 0), some (.int a1), some (.ref 261), none]) rfl (rX_outputByte hc2) rfl rfl ?_
      refine ev_op (st' := [.int 1]) (pc' := 14) hk (.iconst 1) 1 rfl rfl rfl ?_
      cases hx
      obtain rfl := hM
      exact ev_retI hk rfl rfl
    cases hx
set_option maxRecDepth 2000 in
theorem rM_isIn {S : Nat} {xs : Nat → Int32} {I : zI} {C : zC} {Y : Nat → Int32} {Γ : Nat → zG} {D : zD} {O : Nat → Int32} {M : zM} {ou : Nat → Int64} {od : Nat → UInt64} {j : Nat} {a0 : Int64} {a2 : Int64} {a4 : Int64} {X : Bool}   (hx : fM_isIn a0 a2 a4 = X) : Ev S xs 86 0 [some (.long a0), none, some (.long a2), none, some (.long a4), none] [] (zH I C Y Γ D O M ou od j) (((.inl (some (.int (b2i X)))), (zH I C Y Γ D O M ou od j)) : (Option Value ⊕ String) × px_H) := by
  generalize hM : (((.inl (some (.int (b2i X)))), (zH I C Y Γ D O M ou od j)) : (Option Value ⊕ String) × px_H) = y
  replace hM := hM.symm
  have hk : pt_mt[86]? = some pt_r86 := rfl
  unfold fM_isIn at hx
  refine ev_ls (L' := [some (.long a0), none, some (.long a2), none, some (.long a4), none]) (st' := [.long a0]) (pc' := 1) hk (.lload_n 0) 1 rfl rfl rfl rfl ?_
  refine ev_ls (L' := [some (.long a0), none, some (.long a2), none, some (.long a4), none]) (st' := [.long a2, .long a0]) (pc' := 2) hk (.lload_n 2) 1 rfl rfl rfl rfl ?_
  refine ev_op (st' := [.int (lg_cmp a0 a2)]) (pc' := 3) hk (.lcmp) 1 rfl rfl rfl ?_
  refine ev_d1 17 6 hk rfl rfl rfl rfl (px_llt hx (fun hc hx => ?_) (fun hc hx => ?_))
  · refine ev_op (st' := [.int 0]) (pc' := 18) hk (.iconst 0) 1 rfl rfl rfl ?_
    cases hx
    obtain rfl := hM
    exact ev_retZ false rfl hk rfl rfl
  · refine ev_ls (L' := [some (.long a0), none, some (.long a2), none, some (.long a4), none]) (st' := [.long a0]) (pc' := 7) hk (.lload_n 0) 1 rfl rfl rfl rfl ?_
    refine ev_ls (L' := [some (.long a0), none, some (.long a2), none, some (.long a4), none]) (st' := [.long a4, .long a0]) (pc' := 9) hk (.lload 4) 2 rfl rfl rfl rfl ?_
    refine ev_op (st' := [.int (lg_cmp a0 a4)]) (pc' := 10) hk (.lcmp) 1 rfl rfl rfl ?_
    refine ev_d1 17 13 hk rfl rfl rfl rfl (px_lgt hx (fun hc hx => ?_) (fun hc hx => ?_))
    · refine ev_op (st' := [.int 0]) (pc' := 18) hk (.iconst 0) 1 rfl rfl rfl ?_
      cases hx
      obtain rfl := hM
      exact ev_retZ false rfl hk rfl rfl
    · refine ev_op (st' := [.int 1]) (pc' := 14) hk (.iconst 1) 1 rfl rfl rfl ?_
      refine ev_jp (pc' := 18) (st' := [.int 1]) hk (.goto 4) 3 rfl rfl rfl rfl rfl ?_
      cases hx
      obtain rfl := hM
      exact ev_retZ true rfl hk rfl rfl
set_option maxRecDepth 2000 in
theorem rM_outputByte {S : Nat} {xs : Nat → Int32} {I : zI} {C : zC} {Y : Nat → Int32} {Γ : Nat → zG} {D : zD} {O : Nat → Int32} {M : zM} {ou : Nat → Int64} {od : Nat → UInt64} {j : Nat} {a1 : Int32} {X : Int32 × zM}   (hx : fM_outputByte M a1 = some X) : Ev S xs 146 0 [some (.ref 247), some (.int a1)] [] (zH I C Y Γ D O M ou od j) (((.inl (some (.int X.1))), (zH I C Y Γ D O X.2 ou od j)) : (Option Value ⊕ String) × px_H) := by
  generalize hM : (((.inl (some (.int X.1))), (zH I C Y Γ D O X.2 ou od j)) : (Option Value ⊕ String) × px_H) = y
  replace hM := hM.symm
  have hk : pt_mt[146]? = some pt_r146 := rfl
  unfold fM_outputByte at hx
  refine ev_ls (L' := [some (.ref 247), some (.int a1)]) (st' := [.ref 247]) (pc' := 1) hk (.aload_n 0) 1 rfl rfl rfl rfl ?_
  refine ev_ls (L' := [some (.ref 247), some (.int a1)]) (st' := [.int a1, .ref 247]) (pc' := 2) hk (.iload_n 1) 1 rfl rfl rfl rfl ?_
  refine ev_op (st' := [.long (Int32.toInt64 a1), .ref 247]) (pc' := 3) hk (.i2l) 1 rfl rfl rfl ?_
  refine ev_op (st' := [.long 0, .long (Int32.toInt64 a1), .ref 247]) (pc' := 4) hk (.lconst 0) 1 rfl rfl rfl ?_
  refine ev_ls (L' := [some (.ref 247), some (.int a1)]) (st' := [.ref 247, .long 0, .long (Int32.toInt64 a1), .ref 247]) (pc' := 5) hk (.aload_n 0) 1 rfl rfl rfl rfl ?_
  refine ev_gf (.int (mF M 31)) 8 hk rfl rfl lk_model rfl rfl ?_
  refine ev_op (st' := [.int 1, .int (mF M 31), .long 0, .long (Int32.toInt64 a1), .ref 247]) (pc' := 9) hk (.iconst 1) 1 rfl rfl rfl ?_
  refine ev_op (st' := [.int ((mF M 31) - 1), .long 0, .long (Int32.toInt64 a1), .ref 247]) (pc' := 10) hk (.isub) 1 rfl rfl rfl ?_
  refine ev_op (st' := [.long (Int32.toInt64 ((mF M 31) - 1)), .long 0, .long (Int32.toInt64 a1), .ref 247]) (pc' := 11) hk (.i2l) 1 rfl rfl rfl ?_
  refine ev_cs 86 3 [.int (b2i (fM_isIn (Int32.toInt64 a1) 0 (Int32.toInt64 ((mF M 31) - 1)))), .ref 247] 14 hk rfl rfl (by decide) rfl rfl rfl (rM_isIn rfl) rfl rfl rfl rfl ?_
  obtain ⟨v3, M2, hc4, hx⟩ := bnd2_some hx
  refine ev_cv 59 1 [.int (b2i v3)] 17 hk rfl rfl rfl rfl lk_model rfl rfl rfl (rM_goes hc4) rfl rfl rfl rfl ?_
  refine ev_d1 29 20 hk rfl rfl rfl rfl (px_beq hx (fun hc hx => ?_) (fun hc hx => ?_))
  · refine ev_op (st' := [.int 0]) (pc' := 30) hk (.iconst 0) 1 rfl rfl rfl ?_
    cases hx
    obtain rfl := hM
    exact ev_retI hk rfl rfl
  · refine ev_ls (L' := [some (.ref 247), some (.int a1)]) (st' := [.ref 247]) (pc' := 21) hk (.aload_n 0) 1 rfl rfl rfl rfl ?_
    refine ev_gf (.ref 260) 24 hk rfl rfl lk_model rfl rfl ?_
    refine ev_ls (L' := [some (.ref 247), some (.int a1)]) (st' := [.int a1, .ref 260]) (pc' := 25) hk (.iload_n 1) 1 rfl rfl rfl rfl ?_
    obtain ⟨v5, hv5, hx⟩ := bnd_some hx
    refine ev_ial hv5 26 hk rfl lk_m260 rfl ?_
    refine ev_jp (pc' := 30) (st' := [.int v5]) hk (.goto 4) 3 rfl rfl rfl rfl rfl ?_
    cases hx
    obtain rfl := hM
    exact ev_retI hk rfl rfl
set_option maxRecDepth 2000 in
theorem rX_isBand {S : Nat} {xs : Nat → Int32} {I : zI} {C : zC} {Y : Nat → Int32} {Γ : Nat → zG} {D : zD} {O : Nat → Int32} {M : zM} {ou : Nat → Int64} {od : Nat → UInt64} {j : Nat} {a0 : Int32} {X : Bool}   (hx : fX_isBand a0 = X) : Ev S xs 321 0 [some (.int a0)] [] (zH I C Y Γ D O M ou od j) (((.inl (some (.int (b2i X)))), (zH I C Y Γ D O M ou od j)) : (Option Value ⊕ String) × px_H) := by
  generalize hM : (((.inl (some (.int (b2i X)))), (zH I C Y Γ D O M ou od j)) : (Option Value ⊕ String) × px_H) = y
  replace hM := hM.symm
  have hk : pt_mt[321]? = some pt_r321 := rfl
  unfold fX_isBand at hx
  refine ev_ls (L' := [some (.int a0)]) (st' := [.int a0]) (pc' := 1) hk (.iload_n 0) 1 rfl rfl rfl rfl ?_
  refine ev_d1 14 4 hk rfl rfl rfl rfl (px_clt hx (fun hc hx => ?_) (fun hc hx => ?_))
  · refine ev_op (st' := [.int 0]) (pc' := 15) hk (.iconst 0) 1 rfl rfl rfl ?_
    cases hx
    obtain rfl := hM
    exact ev_retZ false rfl hk rfl rfl
  · refine ev_ls (L' := [some (.int a0)]) (st' := [.int a0]) (pc' := 5) hk (.iload_n 0) 1 rfl rfl rfl rfl ?_
    refine ev_op (st' := [.int 9, .int a0]) (pc' := 7) hk (.bipush 9) 2 rfl rfl rfl ?_
    refine ev_d2 14 10 hk rfl rfl rfl rfl (px_cge hx (fun hc hx => ?_) (fun hc hx => ?_))
    · refine ev_op (st' := [.int 0]) (pc' := 15) hk (.iconst 0) 1 rfl rfl rfl ?_
      cases hx
      obtain rfl := hM
      exact ev_retZ false rfl hk rfl rfl
    · refine ev_op (st' := [.int 1]) (pc' := 11) hk (.iconst 1) 1 rfl rfl rfl ?_
      refine ev_jp (pc' := 15) (st' := [.int 1]) hk (.goto 4) 3 rfl rfl rfl rfl rfl ?_
      cases hx
      obtain rfl := hM
      exact ev_retZ true rfl hk rfl rfl
set_option maxRecDepth 2000 in
theorem rX_needBand {S : Nat} {xs : Nat → Int32} {I : zI} {C : zC} {Y : Nat → Int32} {Γ : Nat → zG} {D : zD} {O : Nat → Int32} {M : zM} {ou : Nat → Int64} {od : Nat → UInt64} {j : Nat} {a0 : Int32} {X : (Unit ⊕ String)}   (hx : fX_needBand a0 = some X) : Ev S xs 340 0 [some (.int a0)] [] (zH I C Y Γ D O M ou od j) (Sum.elim (fun v => ((.inl none), (zH I C Y Γ D O M ou od j))) (fun E => (.inr E, (zH I C Y Γ D O M ou od (j + 1)))) X : (Option Value ⊕ String) × px_H) := by
  generalize hM : (Sum.elim (fun v => ((.inl none), (zH I C Y Γ D O M ou od j))) (fun E => (.inr E, (zH I C Y Γ D O M ou od (j + 1)))) X : (Option Value ⊕ String) × px_H) = y
  replace hM := hM.symm
  have hk : pt_mt[340]? = some pt_r340 := rfl
  unfold fX_needBand at hx
  refine ev_ls (L' := [some (.int a0)]) (st' := [.int a0]) (pc' := 1) hk (.iload_n 0) 1 rfl rfl rfl rfl ?_
  refine ev_cs 321 1 [.int (b2i (fX_isBand a0))] 4 hk rfl rfl (by decide) rfl rfl rfl (rX_isBand rfl) rfl rfl rfl rfl ?_
  refine ev_d1 18 7 hk rfl rfl rfl rfl (px_bne hx (fun hc hx => ?_) (fun hc hx => ?_))
  · cases hx
    obtain rfl := hM
    exact ev_retv hk rfl rfl
  · cases hx
    obtain rfl := hM
    exact ev_tw hk rfl (by rfl) rfl zH_j
set_option maxRecDepth 2000 in
theorem rC_isTorn {S : Nat} {xs : Nat → Int32} {I : zI} {C : zC} {Y : Nat → Int32} {Γ : Nat → zG} {D : zD} {O : Nat → Int32} {M : zM} {ou : Nat → Int64} {od : Nat → UInt64} {j : Nat} {g : Nat} {G : zG} {a1 : Int32} {X : Bool}  (hg : isG g) (hx : fC_isTorn G a1 = some X) : Ev S xs 11 0 [some (.ref (g + 1)), some (.int a1)] [] (zH I C Y (gup Γ g G) D O M ou od j) (((.inl (some (.int (b2i X)))), (zH I C Y (gup Γ g G) D O M ou od j)) : (Option Value ⊕ String) × px_H) := by
  generalize hM : (((.inl (some (.int (b2i X)))), (zH I C Y (gup Γ g G) D O M ou od j)) : (Option Value ⊕ String) × px_H) = y
  replace hM := hM.symm
  have hk : pt_mt[11]? = some pt_r11 := rfl
  unfold fC_isTorn at hx
  refine ev_ls (L' := [some (.ref (g + 1)), some (.int a1)]) (st' := [.ref (g + 1)]) (pc' := 1) hk (.aload_n 0) 1 rfl rfl rfl rfl ?_
  refine ev_gf (.ref (g + 4)) 4 hk rfl rfl (lk_cloth hg gup_same) rfl rfl ?_
  refine ev_ls (L' := [some (.ref (g + 1)), some (.int a1)]) (st' := [.int a1, .ref (g + 4)]) (pc' := 5) hk (.iload_n 1) 1 rfl rfl rfl rfl ?_
  obtain ⟨v2, hv2, hx⟩ := bnd_some hx
  refine ev_ial hv2 6 hk rfl (lk_a4 hg gup_same) rfl ?_
  refine ev_d1 13 9 hk rfl rfl rfl rfl (px_cne hx (fun hc hx => ?_) (fun hc hx => ?_))
  · refine ev_op (st' := [.int 0]) (pc' := 14) hk (.iconst 0) 1 rfl rfl rfl ?_
    cases hx
    obtain rfl := hM
    exact ev_retZ false rfl hk rfl rfl
  · refine ev_op (st' := [.int 1]) (pc' := 10) hk (.iconst 1) 1 rfl rfl rfl ?_
    refine ev_jp (pc' := 14) (st' := [.int 1]) hk (.goto 4) 3 rfl rfl rfl rfl rfl ?_
    cases hx
    obtain rfl := hM
    exact ev_retZ true rfl hk rfl rfl
set_option maxRecDepth 2000 in
theorem rL_meets {S : Nat} {xs : Nat → Int32} {I : zI} {C : zC} {Y : Nat → Int32} {Γ : Nat → zG} {D : zD} {O : Nat → Int32} {M : zM} {ou : Nat → Int64} {od : Nat → UInt64} {j : Nat} {g : Nat} {G : zG} {p0 : Nat} {a1 : Int32} {a2 : Int32} {a3 : Int32} {X : Bool}  (hg : isG g) (hp0 : p0 < 8) (hx : fL_meets G p0 a1 a2 a3 = X) : Ev S xs 283 0 [some (.ref (g + (18 + p0))), some (.int a1), some (.int a2), some (.int a3)] [] (zH I C Y (gup Γ g G) D O M ou od j) (((.inl (some (.int (b2i X)))), (zH I C Y (gup Γ g G) D O M ou od j)) : (Option Value ⊕ String) × px_H) := by
  generalize hM : (((.inl (some (.int (b2i X)))), (zH I C Y (gup Γ g G) D O M ou od j)) : (Option Value ⊕ String) × px_H) = y
  replace hM := hM.symm
  have hk : pt_mt[283]? = some pt_r283 := rfl
  unfold fL_meets at hx
  refine ev_ls (L' := [some (.ref (g + (18 + p0))), some (.int a1), some (.int a2), some (.int a3)]) (st' := [.ref (g + (18 + p0))]) (pc' := 1) hk (.aload_n 0) 1 rfl rfl rfl rfl ?_
  refine ev_gf (.int (b2i (gB G (18 + p0)))) 4 hk rfl rfl (lk_label hg hp0 gup_same) rfl rfl ?_
  refine ev_d1 35 7 hk rfl rfl rfl rfl (px_bne hx (fun hc hx => ?_) (fun hc hx => ?_))
  · refine ev_op (st' := [.int 0]) (pc' := 36) hk (.iconst 0) 1 rfl rfl rfl ?_
    cases hx
    obtain rfl := hM
    exact ev_retZ false rfl hk rfl rfl
  · refine ev_ls (L' := [some (.ref (g + (18 + p0))), some (.int a1), some (.int a2), some (.int a3)]) (st' := [.ref (g + (18 + p0))]) (pc' := 8) hk (.aload_n 0) 1 rfl rfl rfl rfl ?_
    refine ev_gf (.int (gF G (18 + p0) 0)) 11 hk rfl rfl (lk_label hg hp0 gup_same) rfl rfl ?_
    refine ev_ls (L' := [some (.ref (g + (18 + p0))), some (.int a1), some (.int a2), some (.int a3)]) (st' := [.int a1, .int (gF G (18 + p0) 0)]) (pc' := 12) hk (.iload_n 1) 1 rfl rfl rfl rfl ?_
    refine ev_d2 35 15 hk rfl rfl rfl rfl (px_cne hx (fun hc hx => ?_) (fun hc hx => ?_))
    · refine ev_op (st' := [.int 0]) (pc' := 36) hk (.iconst 0) 1 rfl rfl rfl ?_
      cases hx
      obtain rfl := hM
      exact ev_retZ false rfl hk rfl rfl
    · refine ev_ls (L' := [some (.ref (g + (18 + p0))), some (.int a1), some (.int a2), some (.int a3)]) (st' := [.ref (g + (18 + p0))]) (pc' := 16) hk (.aload_n 0) 1 rfl rfl rfl rfl ?_
      refine ev_gf (.int (gF G (18 + p0) 1)) 19 hk rfl rfl (lk_label hg hp0 gup_same) rfl rfl ?_
      refine ev_ls (L' := [some (.ref (g + (18 + p0))), some (.int a1), some (.int a2), some (.int a3)]) (st' := [.int a3, .int (gF G (18 + p0) 1)]) (pc' := 20) hk (.iload_n 3) 1 rfl rfl rfl rfl ?_
      refine ev_d2 35 23 hk rfl rfl rfl rfl (px_cgt hx (fun hc hx => ?_) (fun hc hx => ?_))
      · refine ev_op (st' := [.int 0]) (pc' := 36) hk (.iconst 0) 1 rfl rfl rfl ?_
        cases hx
        obtain rfl := hM
        exact ev_retZ false rfl hk rfl rfl
      · refine ev_ls (L' := [some (.ref (g + (18 + p0))), some (.int a1), some (.int a2), some (.int a3)]) (st' := [.int a2]) (pc' := 24) hk (.iload_n 2) 1 rfl rfl rfl rfl ?_
        refine ev_ls (L' := [some (.ref (g + (18 + p0))), some (.int a1), some (.int a2), some (.int a3)]) (st' := [.ref (g + (18 + p0)), .int a2]) (pc' := 25) hk (.aload_n 0) 1 rfl rfl rfl rfl ?_
        refine ev_gf (.int (gF G (18 + p0) 2)) 28 hk rfl rfl (lk_label hg hp0 gup_same) rfl rfl ?_
        refine ev_d2 35 31 hk rfl rfl rfl rfl (px_cgt hx (fun hc hx => ?_) (fun hc hx => ?_))
        · refine ev_op (st' := [.int 0]) (pc' := 36) hk (.iconst 0) 1 rfl rfl rfl ?_
          cases hx
          obtain rfl := hM
          exact ev_retZ false rfl hk rfl rfl
        · refine ev_op (st' := [.int 1]) (pc' := 32) hk (.iconst 1) 1 rfl rfl rfl ?_
          refine ev_jp (pc' := 36) (st' := [.int 1]) hk (.goto 4) 3 rfl rfl rfl rfl rfl ?_
          cases hx
          obtain rfl := hM
          exact ev_retZ true rfl hk rfl rfl
def qG_labelMeeting_3 (S : Nat) (xs : Nat → Int32) (I : zI) (C : zC) (Y : Nat → Int32) (Γ : Nat → zG) (D : zD) (O : Nat → Int32) (M : zM) (ou : Nat → Int64) (od : Nat → UInt64) (j : Nat) (g : Nat) (G : zG) (a1 : Int32) (a2 : Int32) (a3 : Int32) (y : (Option Value ⊕ String) × px_H) (s : Int32) : Prop := Ev S xs 232 3 [some (.ref g), some (.int a1), some (.int a2), some (.int a3), some (.int s)] [] (zH I C Y (gup Γ g G) D O M ou od j) y
set_option maxRecDepth 4000 in
theorem rG_labelMeeting_b3 {S : Nat} {xs : Nat → Int32} {I : zI} {C : zC} {Y : Nat → Int32} {Γ : Nat → zG} {D : zD} {O : Nat → Int32} {M : zM} {ou : Nat → Int64} {od : Nat → UInt64} {j : Nat} {g : Nat} {G : zG} {a1 : Int32} {a2 : Int32} {a3 : Int32} {y : (Option Value ⊕ String) × px_H} {s : Int32} {x : (Int32) ⊕ (Int32)} (hg : isG g) (hx : fG_labelMeeting_b3 G a1 a2 a3 s = some x) (hM : (Sum.elim (qG_labelMeeting_3 S xs I C Y Γ D O M ou od j g G a1 a2 a3 y) (fun X : Int32 => y = (((.inl (some (.int X))), (zH I C Y (gup Γ g G) D O M ou od j)) : (Option Value ⊕ String) × px_H))) x) : qG_labelMeeting_3 S xs I C Y Γ D O M ou od j g G a1 a2 a3 y s := by
  revert hx
  generalize s = a4
  intro hx
  have hk : pt_mt[232]? = some pt_r232 := rfl
  unfold fG_labelMeeting_b3 at hx
  try dsimp only at hx
  refine ev_ls (L' := [some (.ref g), some (.int a1), some (.int a2), some (.int a3), some (.int a4)]) (st' := [.int a4]) (pc' := 5) hk (.iload 4) 2 rfl rfl rfl rfl ?_
  refine ev_ls (L' := [some (.ref g), some (.int a1), some (.int a2), some (.int a3), some (.int a4)]) (st' := [.ref g, .int a4]) (pc' := 6) hk (.aload_n 0) 1 rfl rfl rfl rfl ?_
  refine ev_gf (.int (gF G 0 6)) 9 hk rfl rfl (lk_globe hg gup_same) rfl rfl ?_
  refine ev_d2 37 12 hk rfl rfl rfl rfl (px_cge hx (fun hc hx => ?_) (fun hc hx => ?_))
  · refine ev_op (st' := [.int (-1)]) (pc' := 38) hk (.iconst (-1)) 1 rfl rfl rfl ?_
    cases hx
    obtain rfl := hM
    exact ev_retI hk rfl rfl
  · refine ev_ls (L' := [some (.ref g), some (.int a1), some (.int a2), some (.int a3), some (.int a4)]) (st' := [.ref g]) (pc' := 13) hk (.aload_n 0) 1 rfl rfl rfl rfl ?_
    refine ev_gf (.ref (g + 17)) 16 hk rfl rfl (lk_globe hg gup_same) rfl rfl ?_
    refine ev_ls (L' := [some (.ref g), some (.int a1), some (.int a2), some (.int a3), some (.int a4)]) (st' := [.int a4, .ref (g + 17)]) (pc' := 18) hk (.iload 4) 2 rfl rfl rfl rfl ?_
    obtain ⟨p3, hp3, hx⟩ := bnd_some hx
    have hpp3 := rix_lt hp3
    refine ev_aal (g + (18 + p3)) hp3 19 hk rfl (lk_labels hg gup_same) (by decide) (lk_la hpp3) rfl ?_
    refine ev_ls (L' := [some (.ref g), some (.int a1), some (.int a2), some (.int a3), some (.int a4)]) (st' := [.int a1, .ref (g + (18 + p3))]) (pc' := 20) hk (.iload_n 1) 1 rfl rfl rfl rfl ?_
    refine ev_ls (L' := [some (.ref g), some (.int a1), some (.int a2), some (.int a3), some (.int a4)]) (st' := [.int a2, .int a1, .ref (g + (18 + p3))]) (pc' := 21) hk (.iload_n 2) 1 rfl rfl rfl rfl ?_
    refine ev_ls (L' := [some (.ref g), some (.int a1), some (.int a2), some (.int a3), some (.int a4)]) (st' := [.int a3, .int a2, .int a1, .ref (g + (18 + p3))]) (pc' := 22) hk (.iload_n 3) 1 rfl rfl rfl rfl ?_
    refine ev_cv 283 3 [.int (b2i (fL_meets G p3 a1 a2 a3))] 25 hk rfl rfl rfl rfl (lk_label hg hpp3 gup_same) rfl rfl rfl (rL_meets hg hpp3 rfl) rfl rfl rfl rfl ?_
    refine ev_d1 31 28 hk rfl rfl rfl rfl (px_beq hx (fun hc hx => ?_) (fun hc hx => ?_))
    · refine ev_ls (L' := [some (.ref g), some (.int a1), some (.int a2), some (.int a3), some (.int (a4 + 1))]) (st' := []) (pc' := 34) hk (.iinc 4 1) 3 rfl rfl rfl rfl ?_
      refine ev_jp (pc' := 3) (st' := []) hk (.goto (-31)) 3 rfl rfl rfl rfl rfl ?_
      cases hx
      exact hM
    · refine ev_ls (L' := [some (.ref g), some (.int a1), some (.int a2), some (.int a3), some (.int a4)]) (st' := [.int a4]) (pc' := 30) hk (.iload 4) 2 rfl rfl rfl rfl ?_
      cases hx
      obtain rfl := hM
      exact ev_retI hk rfl rfl
set_option maxRecDepth 2000 in
theorem rG_labelMeeting {S : Nat} {xs : Nat → Int32} {I : zI} {C : zC} {Y : Nat → Int32} {Γ : Nat → zG} {D : zD} {O : Nat → Int32} {M : zM} {ou : Nat → Int64} {od : Nat → UInt64} {j : Nat} {g : Nat} {G : zG} {a1 : Int32} {a2 : Int32} {a3 : Int32} {X : Int32}  (hg : isG g) (hx : fG_labelMeeting G a1 a2 a3 = some X) : Ev S xs 232 0 [some (.ref g), some (.int a1), some (.int a2), some (.int a3), none] [] (zH I C Y (gup Γ g G) D O M ou od j) (((.inl (some (.int X))), (zH I C Y (gup Γ g G) D O M ou od j)) : (Option Value ⊕ String) × px_H) := by
  generalize hM : (((.inl (some (.int X))), (zH I C Y (gup Γ g G) D O M ou od j)) : (Option Value ⊕ String) × px_H) = y
  replace hM := hM.symm
  have hk : pt_mt[232]? = some pt_r232 := rfl
  unfold fG_labelMeeting at hx
  refine ev_op (st' := [.int 0]) (pc' := 1) hk (.iconst 0) 1 rfl rfl rfl ?_
  refine ev_ls (L' := [some (.ref g), some (.int a1), some (.int a2), some (.int a3), some (.int 0)]) (st' := []) (pc' := 3) hk (.istore 4) 2 rfl rfl rfl rfl ?_
  exact ev_iter (qG_labelMeeting_3 S xs I C Y Γ D O M ou od j g G a1 a2 a3 _) (fun X : Int32 => y = (((.inl (some (.int X))), (zH I C Y (gup Γ g G) D O M ou od j)) : (Option Value ⊕ String) × px_H)) (fun s x hb hM => rG_labelMeeting_b3 hg hb hM) fu _ _ hx hM 
def qG_pictureOf_29 (S : Nat) (xs : Nat → Int32) (I : zI) (C : zC) (Y : Nat → Int32) (Γ : Nat → zG) (D : zD) (O : Nat → Int32) (M : zM) (ou : Nat → Int64) (od : Nat → UInt64) (j : Nat) (g : Nat) (G : zG) (a1 : Int32) (a2 : Int32) (a3 : Int32) (y : (Option Value ⊕ String) × px_H) (s : Bool × Int32) : Prop := Ev S xs 243 29 [some (.ref g), some (.int a1), some (.int a2), some (.int a3), some (.int (b2i s.1)), some (.int s.2)] [] (zH I C Y (gup Γ g G) D O M ou od j) y
set_option maxRecDepth 4000 in
theorem rG_pictureOf_b29 {S : Nat} {xs : Nat → Int32} {I : zI} {C : zC} {Y : Nat → Int32} {Γ : Nat → zG} {D : zD} {O : Nat → Int32} {M : zM} {ou : Nat → Int64} {od : Nat → UInt64} {j : Nat} {g : Nat} {G : zG} {a1 : Int32} {a2 : Int32} {a3 : Int32} {y : (Option Value ⊕ String) × px_H} {s : Bool × Int32} {x : (Bool × Int32) ⊕ (Int32)} (hg : isG g) (hx : fG_pictureOf_b29 G a1 a2 a3 s.1 s.2 = some x) (hM : (Sum.elim (qG_pictureOf_29 S xs I C Y Γ D O M ou od j g G a1 a2 a3 y) (fun X : Int32 => y = (((.inl (some (.int X))), (zH I C Y (gup Γ g G) D O M ou od j)) : (Option Value ⊕ String) × px_H))) x) : qG_pictureOf_29 S xs I C Y Γ D O M ou od j g G a1 a2 a3 y s := by
  obtain ⟨a4, a5⟩ := s
  have hk : pt_mt[243]? = some pt_r243 := rfl
  unfold fG_pictureOf_b29 at hx
  try dsimp only at hx
  refine ev_ls (L' := [some (.ref g), some (.int a1), some (.int a2), some (.int a3), some (.int (b2i a4)), some (.int a5)]) (st' := [.int a5]) (pc' := 31) hk (.iload 5) 2 rfl rfl rfl rfl ?_
  refine ev_ls (L' := [some (.ref g), some (.int a1), some (.int a2), some (.int a3), some (.int (b2i a4)), some (.int a5)]) (st' := [.ref g, .int a5]) (pc' := 32) hk (.aload_n 0) 1 rfl rfl rfl rfl ?_
  refine ev_gf (.ref (g + 1)) 35 hk rfl rfl (lk_globe hg gup_same) rfl rfl ?_
  refine ev_gf (.int (gF G 1 0)) 38 hk rfl rfl (lk_cloth hg gup_same) rfl rfl ?_
  refine ev_d2 93 41 hk rfl rfl rfl rfl (px_cge hx (fun hc hx => ?_) (fun hc hx => ?_))
  · refine ev_ls (L' := [some (.ref g), some (.int a1), some (.int a2), some (.int a3), some (.int (b2i a4)), some (.int a5)]) (st' := [.int (b2i a4)]) (pc' := 95) hk (.iload 4) 2 rfl rfl rfl rfl ?_
    refine ev_d1 101 98 hk rfl rfl rfl rfl (px_beq hx (fun hc hx => ?_) (fun hc hx => ?_))
    · refine ev_ls (L' := [some (.ref g), some (.int a1), some (.int a2), some (.int a3), some (.int (b2i a4)), some (.int a5)]) (st' := [.ref g]) (pc' := 102) hk (.aload_n 0) 1 rfl rfl rfl rfl ?_
      refine ev_ls (L' := [some (.ref g), some (.int a1), some (.int a2), some (.int a3), some (.int (b2i a4)), some (.int a5)]) (st' := [.int a1, .ref g]) (pc' := 103) hk (.iload_n 1) 1 rfl rfl rfl rfl ?_
      refine ev_ls (L' := [some (.ref g), some (.int a1), some (.int a2), some (.int a3), some (.int (b2i a4)), some (.int a5)]) (st' := [.int a2, .int a1, .ref g]) (pc' := 104) hk (.iload_n 2) 1 rfl rfl rfl rfl ?_
      refine ev_ls (L' := [some (.ref g), some (.int a1), some (.int a2), some (.int a3), some (.int (b2i a4)), some (.int a5)]) (st' := [.int a3, .int a2, .int a1, .ref g]) (pc' := 105) hk (.iload_n 3) 1 rfl rfl rfl rfl ?_
      obtain ⟨v5, hc6, hx⟩ := bnd_some hx
      refine ev_cv 232 3 [.int v5] 108 hk rfl rfl rfl rfl (lk_globe hg gup_same) rfl rfl rfl (rG_labelMeeting hg hc6) rfl rfl rfl rfl ?_
      refine ev_op (st' := [.int (-1), .int v5]) (pc' := 109) hk (.iconst (-1)) 1 rfl rfl rfl ?_
      refine ev_d2 117 112 hk rfl rfl rfl rfl (px_cne hx (fun hc hx => ?_) (fun hc hx => ?_))
      · refine ev_op (st' := [.int 97]) (pc' := 119) hk (.bipush 97) 2 rfl rfl rfl ?_
        cases hx
        obtain rfl := hM
        exact ev_retC (by decide) hk rfl rfl
      · refine ev_op (st' := [.int 46]) (pc' := 114) hk (.bipush 46) 2 rfl rfl rfl ?_
        refine ev_jp (pc' := 119) (st' := [.int 46]) hk (.goto 5) 3 rfl rfl rfl rfl rfl ?_
        cases hx
        obtain rfl := hM
        exact ev_retC (by decide) hk rfl rfl
    · refine ev_op (st' := [.int 43]) (pc' := 100) hk (.bipush 43) 2 rfl rfl rfl ?_
      cases hx
      obtain rfl := hM
      exact ev_retC (by decide) hk rfl rfl
  · refine ev_ls (L' := [some (.ref g), some (.int a1), some (.int a2), some (.int a3), some (.int (b2i a4)), some (.int a5)]) (st' := [.ref g]) (pc' := 42) hk (.aload_n 0) 1 rfl rfl rfl rfl ?_
    refine ev_gf (.ref (g + 1)) 45 hk rfl rfl (lk_globe hg gup_same) rfl rfl ?_
    refine ev_gf (.ref (g + 3)) 48 hk rfl rfl (lk_cloth hg gup_same) rfl rfl ?_
    refine ev_ls (L' := [some (.ref g), some (.int a1), some (.int a2), some (.int a3), some (.int (b2i a4)), some (.int a5)]) (st' := [.int a5, .ref (g + 3)]) (pc' := 50) hk (.iload 5) 2 rfl rfl rfl rfl ?_
    obtain ⟨v7, hv7, hx⟩ := bnd_some hx
    refine ev_ial hv7 51 hk rfl (lk_a3 hg gup_same) rfl ?_
    refine ev_ls (L' := [some (.ref g), some (.int a1), some (.int a2), some (.int a3), some (.int (b2i a4)), some (.int a5)]) (st' := [.int a2, .int v7]) (pc' := 52) hk (.iload_n 2) 1 rfl rfl rfl rfl ?_
    refine ev_d2 87 55 hk rfl rfl rfl rfl (px_clt hx (fun hc hx => ?_) (fun hc hx => ?_))
    · refine ev_ls (L' := [some (.ref g), some (.int a1), some (.int a2), some (.int a3), some (.int (b2i a4)), some (.int (a5 + 1))]) (st' := []) (pc' := 90) hk (.iinc 5 1) 3 rfl rfl rfl rfl ?_
      refine ev_jp (pc' := 29) (st' := []) hk (.goto (-61)) 3 rfl rfl rfl rfl rfl ?_
      cases hx
      exact hM
    · refine ev_ls (L' := [some (.ref g), some (.int a1), some (.int a2), some (.int a3), some (.int (b2i a4)), some (.int a5)]) (st' := [.ref g]) (pc' := 56) hk (.aload_n 0) 1 rfl rfl rfl rfl ?_
      refine ev_gf (.ref (g + 1)) 59 hk rfl rfl (lk_globe hg gup_same) rfl rfl ?_
      refine ev_gf (.ref (g + 3)) 62 hk rfl rfl (lk_cloth hg gup_same) rfl rfl ?_
      refine ev_ls (L' := [some (.ref g), some (.int a1), some (.int a2), some (.int a3), some (.int (b2i a4)), some (.int a5)]) (st' := [.int a5, .ref (g + 3)]) (pc' := 64) hk (.iload 5) 2 rfl rfl rfl rfl ?_
      obtain ⟨v8, hv8, hx⟩ := bnd_some hx
      refine ev_ial hv8 65 hk rfl (lk_a3 hg gup_same) rfl ?_
      refine ev_ls (L' := [some (.ref g), some (.int a1), some (.int a2), some (.int a3), some (.int (b2i a4)), some (.int a5)]) (st' := [.int a3, .int v8]) (pc' := 66) hk (.iload_n 3) 1 rfl rfl rfl rfl ?_
      refine ev_d2 87 69 hk rfl rfl rfl rfl (px_cgt hx (fun hc hx => ?_) (fun hc hx => ?_))
      · refine ev_ls (L' := [some (.ref g), some (.int a1), some (.int a2), some (.int a3), some (.int (b2i a4)), some (.int (a5 + 1))]) (st' := []) (pc' := 90) hk (.iinc 5 1) 3 rfl rfl rfl rfl ?_
        refine ev_jp (pc' := 29) (st' := []) hk (.goto (-61)) 3 rfl rfl rfl rfl rfl ?_
        cases hx
        exact hM
      · refine ev_ls (L' := [some (.ref g), some (.int a1), some (.int a2), some (.int a3), some (.int (b2i a4)), some (.int a5)]) (st' := [.ref g]) (pc' := 70) hk (.aload_n 0) 1 rfl rfl rfl rfl ?_
        refine ev_gf (.ref (g + 1)) 73 hk rfl rfl (lk_globe hg gup_same) rfl rfl ?_
        refine ev_ls (L' := [some (.ref g), some (.int a1), some (.int a2), some (.int a3), some (.int (b2i a4)), some (.int a5)]) (st' := [.int a5, .ref (g + 1)]) (pc' := 75) hk (.iload 5) 2 rfl rfl rfl rfl ?_
        obtain ⟨v9, hc10, hx⟩ := bnd_some hx
        refine ev_cv 11 1 [.int (b2i v9)] 78 hk rfl rfl rfl rfl (lk_cloth hg gup_same) rfl rfl rfl (rC_isTorn hg hc10) rfl rfl rfl rfl ?_
        refine ev_d1 84 81 hk rfl rfl rfl rfl (px_beq hx (fun hc hx => ?_) (fun hc hx => ?_))
        · refine ev_op (st' := [.int 1]) (pc' := 85) hk (.iconst 1) 1 rfl rfl rfl ?_
          refine ev_ls (L' := [some (.ref g), some (.int a1), some (.int a2), some (.int a3), some (.int 1), some (.int a5)]) (st' := []) (pc' := 87) hk (.istore 4) 2 rfl rfl rfl rfl ?_
          refine ev_ls (L' := [some (.ref g), some (.int a1), some (.int a2), some (.int a3), some (.int 1), some (.int (a5 + 1))]) (st' := []) (pc' := 90) hk (.iinc 5 1) 3 rfl rfl rfl rfl ?_
          refine ev_jp (pc' := 29) (st' := []) hk (.goto (-61)) 3 rfl rfl rfl rfl rfl ?_
          cases hx
          exact hM
        · refine ev_op (st' := [.int 120]) (pc' := 83) hk (.bipush 120) 2 rfl rfl rfl ?_
          cases hx
          obtain rfl := hM
          exact ev_retC (by decide) hk rfl rfl
set_option maxRecDepth 4000 in
theorem rG_pictureOf_j23 {S : Nat} {xs : Nat → Int32} {I : zI} {C : zC} {Y : Nat → Int32} {Γ : Nat → zG} {D : zD} {O : Nat → Int32} {M : zM} {ou : Nat → Int64} {od : Nat → UInt64} {j : Nat} {g : Nat} {G : zG} {a1 : Int32} {a2 : Int32} {a3 : Int32} {y : (Option Value ⊕ String) × px_H} {x : Int32} (hg : isG g) (hx : fG_pictureOf_j23 G a1 a2 a3 = some x) (hM : (fun X : Int32 => y = (((.inl (some (.int X))), (zH I C Y (gup Γ g G) D O M ou od j)) : (Option Value ⊕ String) × px_H)) x)  : Ev S xs 243 23 [some (.ref g), some (.int a1), some (.int a2), some (.int a3), none, none] [] (zH I C Y (gup Γ g G) D O M ou od j) y := by
  have hk : pt_mt[243]? = some pt_r243 := rfl
  unfold fG_pictureOf_j23 at hx
  refine ev_op (st' := [.int 0]) (pc' := 24) hk (.iconst 0) 1 rfl rfl rfl ?_
  refine ev_ls (L' := [some (.ref g), some (.int a1), some (.int a2), some (.int a3), some (.int 0), none]) (st' := []) (pc' := 26) hk (.istore 4) 2 rfl rfl rfl rfl ?_
  refine ev_op (st' := [.int 0]) (pc' := 27) hk (.iconst 0) 1 rfl rfl rfl ?_
  refine ev_ls (L' := [some (.ref g), some (.int a1), some (.int a2), some (.int a3), some (.int 0), some (.int 0)]) (st' := []) (pc' := 29) hk (.istore 5) 2 rfl rfl rfl rfl ?_
  exact ev_iter (qG_pictureOf_29 S xs I C Y Γ D O M ou od j g G a1 a2 a3 _) (fun X : Int32 => y = (((.inl (some (.int X))), (zH I C Y (gup Γ g G) D O M ou od j)) : (Option Value ⊕ String) × px_H)) (fun s x hb hM => rG_pictureOf_b29 hg hb hM) fu _ _ hx hM 
set_option maxRecDepth 2000 in
theorem rG_pictureOf {S : Nat} {xs : Nat → Int32} {I : zI} {C : zC} {Y : Nat → Int32} {Γ : Nat → zG} {D : zD} {O : Nat → Int32} {M : zM} {ou : Nat → Int64} {od : Nat → UInt64} {j : Nat} {g : Nat} {G : zG} {a1 : Int32} {a2 : Int32} {a3 : Int32} {X : Int32}  (hg : isG g) (hx : fG_pictureOf G a1 a2 a3 = some X) : Ev S xs 243 0 [some (.ref g), some (.int a1), some (.int a2), some (.int a3), none, none] [] (zH I C Y (gup Γ g G) D O M ou od j) (((.inl (some (.int X))), (zH I C Y (gup Γ g G) D O M ou od j)) : (Option Value ⊕ String) × px_H) := by
  generalize hM : (((.inl (some (.int X))), (zH I C Y (gup Γ g G) D O M ou od j)) : (Option Value ⊕ String) × px_H) = y
  replace hM := hM.symm
  have hk : pt_mt[243]? = some pt_r243 := rfl
  unfold fG_pictureOf at hx
  refine ev_ls (L' := [some (.ref g), some (.int a1), some (.int a2), some (.int a3), none, none]) (st' := [.ref g]) (pc' := 1) hk (.aload_n 0) 1 rfl rfl rfl rfl ?_
  refine ev_gf (.ref (g + 5)) 4 hk rfl rfl (lk_globe hg gup_same) rfl rfl ?_
  refine ev_ls (L' := [some (.ref g), some (.int a1), some (.int a2), some (.int a3), none, none]) (st' := [.int a1, .ref (g + 5)]) (pc' := 5) hk (.iload_n 1) 1 rfl rfl rfl rfl ?_
  obtain ⟨v11, hv11, hx⟩ := bnd_some hx
  refine ev_ial hv11 6 hk rfl (lk_a5 hg gup_same) rfl ?_
  refine ev_ls (L' := [some (.ref g), some (.int a1), some (.int a2), some (.int a3), none, none]) (st' := [.int a2, .int v11]) (pc' := 7) hk (.iload_n 2) 1 rfl rfl rfl rfl ?_
  refine ev_d2 23 10 hk rfl rfl rfl rfl (px_clt hx (fun hc hx => ?_) (fun hc hx => ?_))
  · exact rG_pictureOf_j23 hg hx hM 
  · refine ev_ls (L' := [some (.ref g), some (.int a1), some (.int a2), some (.int a3), none, none]) (st' := [.ref g]) (pc' := 11) hk (.aload_n 0) 1 rfl rfl rfl rfl ?_
    refine ev_gf (.ref (g + 5)) 14 hk rfl rfl (lk_globe hg gup_same) rfl rfl ?_
    refine ev_ls (L' := [some (.ref g), some (.int a1), some (.int a2), some (.int a3), none, none]) (st' := [.int a1, .ref (g + 5)]) (pc' := 15) hk (.iload_n 1) 1 rfl rfl rfl rfl ?_
    obtain ⟨v12, hv12, hx⟩ := bnd_some hx
    refine ev_ial hv12 16 hk rfl (lk_a5 hg gup_same) rfl ?_
    refine ev_ls (L' := [some (.ref g), some (.int a1), some (.int a2), some (.int a3), none, none]) (st' := [.int a3, .int v12]) (pc' := 17) hk (.iload_n 3) 1 rfl rfl rfl rfl ?_
    refine ev_d2 23 20 hk rfl rfl rfl rfl (px_cgt hx (fun hc hx => ?_) (fun hc hx => ?_))
    · exact rG_pictureOf_j23 hg hx hM 
    · refine ev_op (st' := [.int 72]) (pc' := 22) hk (.bipush 72) 2 rfl rfl rfl ?_
      cases hx
      obtain rfl := hM
      exact ev_retC (by decide) hk rfl rfl
def qX_printBand_6 (S : Nat) (xs : Nat → Int32) (I : zI) (C : zC) (Y : Nat → Int32) (Γ : Nat → zG) (D : zD) (M : zM) (ou : Nat → Int64) (od : Nat → UInt64) (j : Nat) (a1 : Int32) (y : (Option Value ⊕ String) × px_H) (s : (Nat → Int32) × Int32) : Prop := Ev S xs 348 6 [some (.ref 0), some (.int a1), some (.int s.2)] [] (zH I C Y Γ D s.1 M ou od j) y
set_option maxRecDepth 4000 in
theorem rX_printBand_b6 {S : Nat} {xs : Nat → Int32} {I : zI} {C : zC} {Y : Nat → Int32} {Γ : Nat → zG} {D : zD} {M : zM} {ou : Nat → Int64} {od : Nat → UInt64} {j : Nat} {a1 : Int32} {y : (Option Value ⊕ String) × px_H} {s : (Nat → Int32) × Int32} {x : ((Nat → Int32) × Int32) ⊕ ((Int32 ⊕ String) × zD × (Nat → Int32))}  (hx : fX_printBand_b6 Γ D a1 s.1 s.2 = some x) (hM : (Sum.elim (qX_printBand_6 S xs I C Y Γ D M ou od j a1 y) (fun X : (Int32 ⊕ String) × zD × (Nat → Int32) => y = (Sum.elim (fun v => ((.inl (some (.int v))), (zH I C Y Γ X.2.1 X.2.2 M ou od j))) (fun E => (.inr E, (zH I C Y Γ X.2.1 X.2.2 M ou od (j + 1)))) X.1 : (Option Value ⊕ String) × px_H))) x) : qX_printBand_6 S xs I C Y Γ D M ou od j a1 y s := by
  obtain ⟨O, a2⟩ := s
  have hk : pt_mt[348]? = some pt_r348 := rfl
  unfold fX_printBand_b6 at hx
  try dsimp only at hx
  refine ev_ls (L' := [some (.ref 0), some (.int a1), some (.int a2)]) (st' := [.int a2]) (pc' := 7) hk (.iload_n 2) 1 rfl rfl rfl rfl ?_
  refine ev_op (st' := [.int 36, .int a2]) (pc' := 9) hk (.bipush 36) 2 rfl rfl rfl ?_
  refine ev_d2 46 12 hk rfl rfl rfl rfl (px_cge hx (fun hc hx => ?_) (fun hc hx => ?_))
  · refine ev_ls (L' := [some (.ref 0), some (.int a1), some (.int a2)]) (st' := [.ref 0]) (pc' := 47) hk (.aload_n 0) 1 rfl rfl rfl rfl ?_
    refine ev_gf (.ref 246) 50 hk rfl rfl lk_dh rfl rfl ?_
    refine ev_op (st' := [.int 36, .ref 246]) (pc' := 52) hk (.bipush 36) 2 rfl rfl rfl ?_
    refine ev_op (st' := [.int 10, .int 36, .ref 246]) (pc' := 54) hk (.bipush 10) 2 rfl rfl rfl ?_
    obtain ⟨O8, hO8, hx⟩ := bnd_some hx
    have hO8 := Option.some.inj hO8
    refine ev_bas (A := (upd O 36 (vp_nar .byte 10))) rfl 55 hk rfl lk_out (sa_o hO8) rfl ?_
    refine ev_ls (L' := [some (.ref 0), some (.int a1), some (.int a2)]) (st' := [.ref 0]) (pc' := 56) hk (.aload_n 0) 1 rfl rfl rfl rfl ?_
    refine ev_op (st' := [.int 37, .ref 0]) (pc' := 58) hk (.bipush 37) 2 rfl rfl rfl ?_
    obtain ⟨D9, hD9, hx⟩ := bnd_some hx
    have hD9 := Option.some.inj hD9
    refine ev_pf 61 hk rfl rfl lk_dh rfl rfl rfl (sf_7_8 hD9) rfl ?_
    refine ev_ls (L' := [some (.ref 0), some (.int a1), some (.int a2)]) (st' := [.ref 0]) (pc' := 62) hk (.aload_n 0) 1 rfl rfl rfl rfl ?_
    refine ev_gf (.int D9.2) 65 hk rfl rfl lk_dh rfl rfl ?_
    cases hx
    obtain rfl := hM
    exact ev_retI hk rfl rfl
  · refine ev_ls (L' := [some (.ref 0), some (.int a1), some (.int a2)]) (st' := [.ref 0]) (pc' := 13) hk (.aload_n 0) 1 rfl rfl rfl rfl ?_
    refine ev_gf (.ref 246) 16 hk rfl rfl lk_dh rfl rfl ?_
    refine ev_ls (L' := [some (.ref 0), some (.int a1), some (.int a2)]) (st' := [.int a2, .ref 246]) (pc' := 17) hk (.iload_n 2) 1 rfl rfl rfl rfl ?_
    refine ev_ls (L' := [some (.ref 0), some (.int a1), some (.int a2)]) (st' := [.ref 0, .int a2, .ref 246]) (pc' := 18) hk (.aload_n 0) 1 rfl rfl rfl rfl ?_
    refine ev_gf (.ref 10) 21 hk rfl rfl lk_dh rfl rfl ?_
    refine ev_ls (L' := [some (.ref 0), some (.int a1), some (.int a2)]) (st' := [.int a1, .ref 10, .int a2, .ref 246]) (pc' := 22) hk (.iload_n 1) 1 rfl rfl rfl rfl ?_
    refine ev_ls (L' := [some (.ref 0), some (.int a1), some (.int a2)]) (st' := [.int a2, .int a1, .ref 10, .int a2, .ref 246]) (pc' := 23) hk (.iload_n 2) 1 rfl rfl rfl rfl ?_
    refine ev_op (st' := [.int 10, .int a2, .int a1, .ref 10, .int a2, .ref 246]) (pc' := 25) hk (.bipush 10) 2 rfl rfl rfl ?_
    refine ev_op (st' := [.int (a2 * 10), .int a1, .ref 10, .int a2, .ref 246]) (pc' := 26) hk (.imul) 1 rfl rfl rfl ?_
    refine ev_ls (L' := [some (.ref 0), some (.int a1), some (.int a2)]) (st' := [.int a2, .int (a2 * 10), .int a1, .ref 10, .int a2, .ref 246]) (pc' := 27) hk (.iload_n 2) 1 rfl rfl rfl rfl ?_
    refine ev_op (st' := [.int 10, .int a2, .int (a2 * 10), .int a1, .ref 10, .int a2, .ref 246]) (pc' := 29) hk (.bipush 10) 2 rfl rfl rfl ?_
    refine ev_op (st' := [.int (a2 * 10), .int (a2 * 10), .int a1, .ref 10, .int a2, .ref 246]) (pc' := 30) hk (.imul) 1 rfl rfl rfl ?_
    refine ev_op (st' := [.int 10, .int (a2 * 10), .int (a2 * 10), .int a1, .ref 10, .int a2, .ref 246]) (pc' := 32) hk (.bipush 10) 2 rfl rfl rfl ?_
    refine ev_op (st' := [.int ((a2 * 10) + 10), .int (a2 * 10), .int a1, .ref 10, .int a2, .ref 246]) (pc' := 33) hk (.iadd) 1 rfl rfl rfl ?_
    refine ev_op (st' := [.int 1, .int ((a2 * 10) + 10), .int (a2 * 10), .int a1, .ref 10, .int a2, .ref 246]) (pc' := 34) hk (.iconst 1) 1 rfl rfl rfl ?_
    refine ev_op (st' := [.int (((a2 * 10) + 10) - 1), .int (a2 * 10), .int a1, .ref 10, .int a2, .ref 246]) (pc' := 35) hk (.isub) 1 rfl rfl rfl ?_
    obtain ⟨v10, hc11, hx⟩ := bnd_some hx
    refine ev_cv 243 3 [.int v10, .int a2, .ref 246] 38 hk rfl rfl rfl rfl (lk_globe isG_10 rfl) rfl rfl rfl (ev_gs2 (rG_pictureOf isG_10 hc11)) rfl rfl rfl rfl ?_
    refine ev_op (st' := [.int (Int8.toInt32 (Int32.toInt8 v10)), .int a2, .ref 246]) (pc' := 39) hk (.i2b) 1 rfl rfl rfl ?_
    obtain ⟨A12, hA12, hx⟩ := bnd_some hx
    obtain ⟨O13, hO13, hx⟩ := bnd_some hx
    have hO13 := Option.some.inj hO13
    refine ev_bas hA12 40 hk rfl lk_out (sa_o hO13) rfl ?_
    refine ev_ls (L' := [some (.ref 0), some (.int a1), some (.int (a2 + 1))]) (st' := []) (pc' := 43) hk (.iinc 2 1) 3 rfl rfl rfl rfl ?_
    refine ev_jp (pc' := 6) (st' := []) hk (.goto (-37)) 3 rfl rfl rfl rfl rfl ?_
    cases hx
    exact hM
set_option maxRecDepth 2000 in
theorem rX_printBand {S : Nat} {xs : Nat → Int32} {I : zI} {C : zC} {Y : Nat → Int32} {Γ : Nat → zG} {D : zD} {O : Nat → Int32} {M : zM} {ou : Nat → Int64} {od : Nat → UInt64} {j : Nat} {a1 : Int32} {X : (Int32 ⊕ String) × zD × (Nat → Int32)}   (hx : fX_printBand Γ D O a1 = some X) : Ev S xs 348 0 [some (.ref 0), some (.int a1), none] [] (zH I C Y Γ D O M ou od j) (Sum.elim (fun v => ((.inl (some (.int v))), (zH I C Y Γ X.2.1 X.2.2 M ou od j))) (fun E => (.inr E, (zH I C Y Γ X.2.1 X.2.2 M ou od (j + 1)))) X.1 : (Option Value ⊕ String) × px_H) := by
  generalize hM : (Sum.elim (fun v => ((.inl (some (.int v))), (zH I C Y Γ X.2.1 X.2.2 M ou od j))) (fun E => (.inr E, (zH I C Y Γ X.2.1 X.2.2 M ou od (j + 1)))) X.1 : (Option Value ⊕ String) × px_H) = y
  replace hM := hM.symm
  have hk : pt_mt[348]? = some pt_r348 := rfl
  unfold fX_printBand at hx
  refine ev_ls (L' := [some (.ref 0), some (.int a1), none]) (st' := [.int a1]) (pc' := 1) hk (.iload_n 1) 1 rfl rfl rfl rfl ?_
  rcases bnx_some hx with ⟨⟨⟩, hc14, hx⟩ | ⟨E15, hc14, hx⟩
  · skip
    refine ev_cs 340 1 [] 4 hk rfl rfl (by decide) rfl rfl rfl (rX_needBand hc14) rfl rfl rfl rfl ?_
    refine ev_op (st' := [.int 0]) (pc' := 5) hk (.iconst 0) 1 rfl rfl rfl ?_
    refine ev_ls (L' := [some (.ref 0), some (.int a1), some (.int 0)]) (st' := []) (pc' := 6) hk (.istore_n 2) 1 rfl rfl rfl rfl ?_
    exact ev_iter (qX_printBand_6 S xs I C Y Γ D M ou od j a1 _) (fun X : (Int32 ⊕ String) × zD × (Nat → Int32) => y = (Sum.elim (fun v => ((.inl (some (.int v))), (zH I C Y Γ X.2.1 X.2.2 M ou od j))) (fun E => (.inr E, (zH I C Y Γ X.2.1 X.2.2 M ou od (j + 1)))) X.1 : (Option Value ⊕ String) × px_H)) (fun s x hb hM => rX_printBand_b6 hb hM) fu _ _ hx hM 
  · skip
    cases hx
    obtain rfl := hM
    exact ev_csX 340 1 hk rfl rfl (by decide) rfl rfl rfl rfl (rX_needBand hc14) rfl rfl
set_option maxRecDepth 2000 in
theorem rw_printBand {S : Nat} {xs : Nat → Int32} {I : zI} {C : zC} {Y : Nat → Int32} {Γ : Nat → zG} {D : zD} {O : Nat → Int32} {M : zM} {ou : Nat → Int64} {od : Nat → UInt64} {j : Nat} {a1 : Int32} {X : Int32 × zD × (Nat → Int32) × (Nat → Int64) × Nat}   (hx : fw_printBand Γ D O ou j a1 = some X) : Ev S xs 398 0 [some (.ref 0), some (.int a1), some (.ref 261), none] [] (zH I C Y Γ D O M ou od j) (((.inl (some (.int X.1))), (zH I C Y Γ X.2.1 X.2.2.1 M X.2.2.2.1 od X.2.2.2.2)) : (Option Value ⊕ String) × px_H) := by
  generalize hM : (((.inl (some (.int X.1))), (zH I C Y Γ X.2.1 X.2.2.1 M X.2.2.2.1 od X.2.2.2.2)) : (Option Value ⊕ String) × px_H) = y
  replace hM := hM.symm
  have hk : pt_mt[398]? = some pt_r398 := rfl
  unfold fw_printBand at hx
  refine ev_ls (L' := [some (.ref 0), some (.int a1), some (.ref 261), none]) (st' := [.ref 261]) (pc' := 1) hk (.aload_n 2) 1 rfl rfl rfl rfl ?_
  refine ev_op (st' := [.int 0, .ref 261]) (pc' := 2) hk (.iconst 0) 1 rfl rfl rfl ?_
  refine ev_ls (L' := [some (.ref 0), some (.int a1), some (.ref 261), none]) (st' := [.ref 0, .int 0, .ref 261]) (pc' := 3) hk (.aload_n 0) 1 rfl rfl rfl rfl ?_
  refine ev_ls (L' := [some (.ref 0), some (.int a1), some (.ref 261), none]) (st' := [.int a1, .ref 0, .int 0, .ref 261]) (pc' := 4) hk (.iload_n 1) 1 rfl rfl rfl rfl ?_
  obtain ⟨r8, D2, O3, hc4, hx⟩ := bnd3_some hx
  rcases r8 with v6 | E5
  · simp only [Sum.elim_inl] at hx
    refine ev_cv 348 1 [.int v6, .int 0, .ref 261] 7 hk rfl rfl rfl rfl lk_dh rfl rfl rfl (rX_printBand hc4) rfl rfl rfl rfl ?_
    refine ev_op (st' := [.long (Int32.toInt64 v6), .int 0, .ref 261]) (pc' := 8) hk (.i2l) 1 rfl rfl rfl ?_
    obtain ⟨ou7, hou7, hx⟩ := bnd_some hx
    have hou7 := Option.some.inj hou7
    refine ev_las (A := (vp_updL ou 0 (Int32.toInt64 v6))) rfl 9 hk rfl lk_ou (sa_ou hou7) rfl ?_
    refine ev_jp (pc' := 15) (st' := []) hk (.goto 6) 3 rfl rfl rfl rfl rfl ?_
    refine ev_op (st' := [.int 0]) (pc' := 16) hk (.iconst 0) 1 rfl rfl rfl ?_
    cases hx
    obtain rfl := hM
    exact ev_retI hk rfl rfl
  · simp only [Sum.elim_inr] at hx
    rcases ite_or hx with ⟨hE, hx⟩ | ⟨hE, hx⟩
    · subst hE
      refine ev_cvC 348 1 13 hk rfl rfl rfl rfl lk_dh rfl rfl rfl (t := 12) (by decide +kernel) (L' := [some (.ref 0), some (.int a1), some (.ref 261), none]) rfl (rX_printBand hc4) rfl rfl ?_
      refine ev_op (st' := [.int 1]) (pc' := 14) hk (.iconst 1) 1 rfl rfl rfl ?_
      cases hx
      obtain rfl := hM
      exact ev_retI hk rfl rfl
    cases hx
set_option maxRecDepth 2000 in
theorem rM_isBand {S : Nat} {xs : Nat → Int32} {I : zI} {C : zC} {Y : Nat → Int32} {Γ : Nat → zG} {D : zD} {O : Nat → Int32} {M : zM} {ou : Nat → Int64} {od : Nat → UInt64} {j : Nat} {a0 : Int32} {X : Bool}   (hx : fM_isBand a0 = X) : Ev S xs 79 0 [some (.int a0)] [] (zH I C Y Γ D O M ou od j) (((.inl (some (.int (b2i X)))), (zH I C Y Γ D O M ou od j)) : (Option Value ⊕ String) × px_H) := by
  generalize hM : (((.inl (some (.int (b2i X)))), (zH I C Y Γ D O M ou od j)) : (Option Value ⊕ String) × px_H) = y
  replace hM := hM.symm
  have hk : pt_mt[79]? = some pt_r79 := rfl
  unfold fM_isBand at hx
  refine ev_ls (L' := [some (.int a0)]) (st' := [.int a0]) (pc' := 1) hk (.iload_n 0) 1 rfl rfl rfl rfl ?_
  refine ev_op (st' := [.long (Int32.toInt64 a0)]) (pc' := 2) hk (.i2l) 1 rfl rfl rfl ?_
  refine ev_op (st' := [.long 0, .long (Int32.toInt64 a0)]) (pc' := 3) hk (.lconst 0) 1 rfl rfl rfl ?_
  refine ev_ldJ 8 6 hk rfl rfl rfl ?_
  refine ev_cs 86 3 [.int (b2i (fM_isIn (Int32.toInt64 a0) 0 8))] 9 hk rfl rfl (by decide) rfl rfl rfl (rM_isIn rfl) rfl rfl rfl rfl ?_
  cases hx
  obtain rfl := hM
  exact ev_retZ _ rfl hk rfl rfl
set_option maxRecDepth 2000 in
theorem rM_lbl {S : Nat} {xs : Nat → Int32} {I : zI} {C : zC} {Y : Nat → Int32} {Γ : Nat → zG} {D : zD} {O : Nat → Int32} {M : zM} {ou : Nat → Int64} {od : Nat → UInt64} {j : Nat} {a0 : Int32} {X : Int32}   (hx : fM_lbl a0 = X) : Ev S xs 118 0 [some (.int a0)] [] (zH I C Y Γ D O M ou od j) (((.inl (some (.int X))), (zH I C Y Γ D O M ou od j)) : (Option Value ⊕ String) × px_H) := by
  generalize hM : (((.inl (some (.int X))), (zH I C Y Γ D O M ou od j)) : (Option Value ⊕ String) × px_H) = y
  replace hM := hM.symm
  have hk : pt_mt[118]? = some pt_r118 := rfl
  unfold fM_lbl at hx
  refine ev_op (st' := [.int 128]) (pc' := 3) hk (.sipush 128) 3 rfl rfl rfl ?_
  refine ev_op (st' := [.int 4, .int 128]) (pc' := 4) hk (.iconst 4) 1 rfl rfl rfl ?_
  refine ev_ls (L' := [some (.int a0)]) (st' := [.int a0, .int 4, .int 128]) (pc' := 5) hk (.iload_n 0) 1 rfl rfl rfl rfl ?_
  refine ev_op (st' := [.int (4 * a0), .int 128]) (pc' := 6) hk (.imul) 1 rfl rfl rfl ?_
  refine ev_op (st' := [.int (128 + (4 * a0))]) (pc' := 7) hk (.iadd) 1 rfl rfl rfl ?_
  cases hx
  obtain rfl := hM
  exact ev_retI hk rfl rfl
set_option maxRecDepth 2000 in
theorem rM_its {S : Nat} {xs : Nat → Int32} {I : zI} {C : zC} {Y : Nat → Int32} {Γ : Nat → zG} {D : zD} {O : Nat → Int32} {M : zM} {ou : Nat → Int64} {od : Nat → UInt64} {j : Nat} {a1 : Int32} {a2 : Int32} {X : Int32}   (hx : fM_its M a1 a2 = some X) : Ev S xs 103 0 [some (.ref 247), some (.int a1), some (.int a2)] [] (zH I C Y Γ D O M ou od j) (((.inl (some (.int X))), (zH I C Y Γ D O M ou od j)) : (Option Value ⊕ String) × px_H) := by
  generalize hM : (((.inl (some (.int X))), (zH I C Y Γ D O M ou od j)) : (Option Value ⊕ String) × px_H) = y
  replace hM := hM.symm
  have hk : pt_mt[103]? = some pt_r103 := rfl
  unfold fM_its at hx
  refine ev_ls (L' := [some (.ref 247), some (.int a1), some (.int a2)]) (st' := [.ref 247]) (pc' := 1) hk (.aload_n 0) 1 rfl rfl rfl rfl ?_
  refine ev_gf (.ref 249) 4 hk rfl rfl lk_model rfl rfl ?_
  refine ev_ls (L' := [some (.ref 247), some (.int a1), some (.int a2)]) (st' := [.int a1, .ref 249]) (pc' := 5) hk (.iload_n 1) 1 rfl rfl rfl rfl ?_
  refine ev_cs 118 1 [.int (fM_lbl a1), .ref 249] 8 hk rfl rfl (by decide) rfl rfl rfl (rM_lbl rfl) rfl rfl rfl rfl ?_
  refine ev_ls (L' := [some (.ref 247), some (.int a1), some (.int a2)]) (st' := [.int a2, .int (fM_lbl a1), .ref 249]) (pc' := 9) hk (.iload_n 2) 1 rfl rfl rfl rfl ?_
  refine ev_op (st' := [.int ((fM_lbl a1) + a2), .ref 249]) (pc' := 10) hk (.iadd) 1 rfl rfl rfl ?_
  obtain ⟨v2, hv2, hx⟩ := bnd_some hx
  refine ev_ial hv2 11 hk rfl lk_m249 rfl ?_
  cases hx
  obtain rfl := hM
  exact ev_retI hk rfl rfl
set_option maxRecDepth 2000 in
theorem rM_isThere {S : Nat} {xs : Nat → Int32} {I : zI} {C : zC} {Y : Nat → Int32} {Γ : Nat → zG} {D : zD} {O : Nat → Int32} {M : zM} {ou : Nat → Int64} {od : Nat → UInt64} {j : Nat} {a1 : Int32} {a2 : Int32} {X : Bool}   (hx : fM_isThere M a1 a2 = some X) : Ev S xs 96 0 [some (.ref 247), some (.int a1), some (.int a2)] [] (zH I C Y Γ D O M ou od j) (((.inl (some (.int (b2i X)))), (zH I C Y Γ D O M ou od j)) : (Option Value ⊕ String) × px_H) := by
  generalize hM : (((.inl (some (.int (b2i X)))), (zH I C Y Γ D O M ou od j)) : (Option Value ⊕ String) × px_H) = y
  replace hM := hM.symm
  have hk : pt_mt[96]? = some pt_r96 := rfl
  unfold fM_isThere at hx
  refine ev_ls (L' := [some (.ref 247), some (.int a1), some (.int a2)]) (st' := [.ref 247]) (pc' := 1) hk (.aload_n 0) 1 rfl rfl rfl rfl ?_
  refine ev_ls (L' := [some (.ref 247), some (.int a1), some (.int a2)]) (st' := [.int a1, .ref 247]) (pc' := 2) hk (.iload_n 1) 1 rfl rfl rfl rfl ?_
  refine ev_op (st' := [.int 3, .int a1, .ref 247]) (pc' := 3) hk (.iconst 3) 1 rfl rfl rfl ?_
  obtain ⟨v1, hc2, hx⟩ := bnd_some hx
  refine ev_cv 103 2 [.int v1] 6 hk rfl rfl rfl rfl lk_model rfl rfl rfl (rM_its hc2) rfl rfl rfl rfl ?_
  refine ev_d1 23 9 hk rfl rfl rfl rfl (px_cne hx (fun hc hx => ?_) (fun hc hx => ?_))
  · refine ev_op (st' := [.int 0]) (pc' := 24) hk (.iconst 0) 1 rfl rfl rfl ?_
    cases hx
    obtain rfl := hM
    exact ev_retZ false rfl hk rfl rfl
  · refine ev_ls (L' := [some (.ref 247), some (.int a1), some (.int a2)]) (st' := [.ref 247]) (pc' := 10) hk (.aload_n 0) 1 rfl rfl rfl rfl ?_
    refine ev_ls (L' := [some (.ref 247), some (.int a1), some (.int a2)]) (st' := [.int a1, .ref 247]) (pc' := 11) hk (.iload_n 1) 1 rfl rfl rfl rfl ?_
    refine ev_op (st' := [.int 0, .int a1, .ref 247]) (pc' := 12) hk (.iconst 0) 1 rfl rfl rfl ?_
    obtain ⟨v3, hc4, hx⟩ := bnd_some hx
    refine ev_cv 103 2 [.int v3] 15 hk rfl rfl rfl rfl lk_model rfl rfl rfl (rM_its hc4) rfl rfl rfl rfl ?_
    refine ev_ls (L' := [some (.ref 247), some (.int a1), some (.int a2)]) (st' := [.int a2, .int v3]) (pc' := 16) hk (.iload_n 2) 1 rfl rfl rfl rfl ?_
    refine ev_d2 23 19 hk rfl rfl rfl rfl (px_cne hx (fun hc hx => ?_) (fun hc hx => ?_))
    · refine ev_op (st' := [.int 0]) (pc' := 24) hk (.iconst 0) 1 rfl rfl rfl ?_
      cases hx
      obtain rfl := hM
      exact ev_retZ false rfl hk rfl rfl
    · refine ev_op (st' := [.int 1]) (pc' := 20) hk (.iconst 1) 1 rfl rfl rfl ?_
      refine ev_jp (pc' := 24) (st' := [.int 1]) hk (.goto 4) 3 rfl rfl rfl rfl rfl ?_
      cases hx
      obtain rfl := hM
      exact ev_retZ true rfl hk rfl rfl
set_option maxRecDepth 2000 in
theorem rM_lastOf {S : Nat} {xs : Nat → Int32} {I : zI} {C : zC} {Y : Nat → Int32} {Γ : Nat → zG} {D : zD} {O : Nat → Int32} {M : zM} {ou : Nat → Int64} {od : Nat → UInt64} {j : Nat} {a1 : Int32} {X : Int32}   (hx : fM_lastOf M a1 = some X) : Ev S xs 116 0 [some (.ref 247), some (.int a1)] [] (zH I C Y Γ D O M ou od j) (((.inl (some (.int X))), (zH I C Y Γ D O M ou od j)) : (Option Value ⊕ String) × px_H) := by
  generalize hM : (((.inl (some (.int X))), (zH I C Y Γ D O M ou od j)) : (Option Value ⊕ String) × px_H) = y
  replace hM := hM.symm
  have hk : pt_mt[116]? = some pt_r116 := rfl
  unfold fM_lastOf at hx
  refine ev_ls (L' := [some (.ref 247), some (.int a1)]) (st' := [.ref 247]) (pc' := 1) hk (.aload_n 0) 1 rfl rfl rfl rfl ?_
  refine ev_ls (L' := [some (.ref 247), some (.int a1)]) (st' := [.int a1, .ref 247]) (pc' := 2) hk (.iload_n 1) 1 rfl rfl rfl rfl ?_
  refine ev_op (st' := [.int 1, .int a1, .ref 247]) (pc' := 3) hk (.iconst 1) 1 rfl rfl rfl ?_
  obtain ⟨v1, hc2, hx⟩ := bnd_some hx
  refine ev_cv 103 2 [.int v1] 6 hk rfl rfl rfl rfl lk_model rfl rfl rfl (rM_its hc2) rfl rfl rfl rfl ?_
  refine ev_ls (L' := [some (.ref 247), some (.int a1)]) (st' := [.ref 247, .int v1]) (pc' := 7) hk (.aload_n 0) 1 rfl rfl rfl rfl ?_
  refine ev_ls (L' := [some (.ref 247), some (.int a1)]) (st' := [.int a1, .ref 247, .int v1]) (pc' := 8) hk (.iload_n 1) 1 rfl rfl rfl rfl ?_
  refine ev_op (st' := [.int 2, .int a1, .ref 247, .int v1]) (pc' := 9) hk (.iconst 2) 1 rfl rfl rfl ?_
  obtain ⟨v3, hc4, hx⟩ := bnd_some hx
  refine ev_cv 103 2 [.int v3, .int v1] 12 hk rfl rfl rfl rfl lk_model rfl rfl rfl (rM_its hc4) rfl rfl rfl rfl ?_
  refine ev_op (st' := [.int (v1 + v3)]) (pc' := 13) hk (.iadd) 1 rfl rfl rfl ?_
  refine ev_op (st' := [.int 1, .int (v1 + v3)]) (pc' := 14) hk (.iconst 1) 1 rfl rfl rfl ?_
  refine ev_op (st' := [.int ((v1 + v3) - 1)]) (pc' := 15) hk (.isub) 1 rfl rfl rfl ?_
  cases hx
  obtain rfl := hM
  exact ev_retI hk rfl rfl
set_option maxRecDepth 2000 in
theorem rM_covers {S : Nat} {xs : Nat → Int32} {I : zI} {C : zC} {Y : Nat → Int32} {Γ : Nat → zG} {D : zD} {O : Nat → Int32} {M : zM} {ou : Nat → Int64} {od : Nat → UInt64} {j : Nat} {a1 : Int32} {a2 : Int32} {a3 : Int32} {X : Bool}   (hx : fM_covers M a1 a2 a3 = some X) : Ev S xs 39 0 [some (.ref 247), some (.int a1), some (.int a2), some (.int a3)] [] (zH I C Y Γ D O M ou od j) (((.inl (some (.int (b2i X)))), (zH I C Y Γ D O M ou od j)) : (Option Value ⊕ String) × px_H) := by
  generalize hM : (((.inl (some (.int (b2i X)))), (zH I C Y Γ D O M ou od j)) : (Option Value ⊕ String) × px_H) = y
  replace hM := hM.symm
  have hk : pt_mt[39]? = some pt_r39 := rfl
  unfold fM_covers at hx
  refine ev_ls (L' := [some (.ref 247), some (.int a1), some (.int a2), some (.int a3)]) (st' := [.ref 247]) (pc' := 1) hk (.aload_n 0) 1 rfl rfl rfl rfl ?_
  refine ev_ls (L' := [some (.ref 247), some (.int a1), some (.int a2), some (.int a3)]) (st' := [.int a1, .ref 247]) (pc' := 2) hk (.iload_n 1) 1 rfl rfl rfl rfl ?_
  refine ev_ls (L' := [some (.ref 247), some (.int a1), some (.int a2), some (.int a3)]) (st' := [.int a2, .int a1, .ref 247]) (pc' := 3) hk (.iload_n 2) 1 rfl rfl rfl rfl ?_
  obtain ⟨v1, hc2, hx⟩ := bnd_some hx
  refine ev_cv 96 2 [.int (b2i v1)] 6 hk rfl rfl rfl rfl lk_model rfl rfl rfl (rM_isThere hc2) rfl rfl rfl rfl ?_
  refine ev_d1 34 9 hk rfl rfl rfl rfl (px_beq hx (fun hc hx => ?_) (fun hc hx => ?_))
  · refine ev_op (st' := [.int 0]) (pc' := 35) hk (.iconst 0) 1 rfl rfl rfl ?_
    cases hx
    obtain rfl := hM
    exact ev_retZ false rfl hk rfl rfl
  · refine ev_ls (L' := [some (.ref 247), some (.int a1), some (.int a2), some (.int a3)]) (st' := [.int a3]) (pc' := 10) hk (.iload_n 3) 1 rfl rfl rfl rfl ?_
    refine ev_op (st' := [.long (Int32.toInt64 a3)]) (pc' := 11) hk (.i2l) 1 rfl rfl rfl ?_
    refine ev_ls (L' := [some (.ref 247), some (.int a1), some (.int a2), some (.int a3)]) (st' := [.ref 247, .long (Int32.toInt64 a3)]) (pc' := 12) hk (.aload_n 0) 1 rfl rfl rfl rfl ?_
    refine ev_ls (L' := [some (.ref 247), some (.int a1), some (.int a2), some (.int a3)]) (st' := [.int a1, .ref 247, .long (Int32.toInt64 a3)]) (pc' := 13) hk (.iload_n 1) 1 rfl rfl rfl rfl ?_
    refine ev_op (st' := [.int 1, .int a1, .ref 247, .long (Int32.toInt64 a3)]) (pc' := 14) hk (.iconst 1) 1 rfl rfl rfl ?_
    obtain ⟨v3, hc4, hx⟩ := bnd_some hx
    refine ev_cv 103 2 [.int v3, .long (Int32.toInt64 a3)] 17 hk rfl rfl rfl rfl lk_model rfl rfl rfl (rM_its hc4) rfl rfl rfl rfl ?_
    refine ev_op (st' := [.long (Int32.toInt64 v3), .long (Int32.toInt64 a3)]) (pc' := 18) hk (.i2l) 1 rfl rfl rfl ?_
    refine ev_ls (L' := [some (.ref 247), some (.int a1), some (.int a2), some (.int a3)]) (st' := [.ref 247, .long (Int32.toInt64 v3), .long (Int32.toInt64 a3)]) (pc' := 19) hk (.aload_n 0) 1 rfl rfl rfl rfl ?_
    refine ev_ls (L' := [some (.ref 247), some (.int a1), some (.int a2), some (.int a3)]) (st' := [.int a1, .ref 247, .long (Int32.toInt64 v3), .long (Int32.toInt64 a3)]) (pc' := 20) hk (.iload_n 1) 1 rfl rfl rfl rfl ?_
    obtain ⟨v5, hc6, hx⟩ := bnd_some hx
    refine ev_cv 116 1 [.int v5, .long (Int32.toInt64 v3), .long (Int32.toInt64 a3)] 23 hk rfl rfl rfl rfl lk_model rfl rfl rfl (rM_lastOf hc6) rfl rfl rfl rfl ?_
    refine ev_op (st' := [.long (Int32.toInt64 v5), .long (Int32.toInt64 v3), .long (Int32.toInt64 a3)]) (pc' := 24) hk (.i2l) 1 rfl rfl rfl ?_
    refine ev_cs 86 3 [.int (b2i (fM_isIn (Int32.toInt64 a3) (Int32.toInt64 v3) (Int32.toInt64 v5)))] 27 hk rfl rfl (by decide) rfl rfl rfl (rM_isIn rfl) rfl rfl rfl rfl ?_
    refine ev_d1 34 30 hk rfl rfl rfl rfl (px_beq hx (fun hc hx => ?_) (fun hc hx => ?_))
    · refine ev_op (st' := [.int 0]) (pc' := 35) hk (.iconst 0) 1 rfl rfl rfl ?_
      cases hx
      obtain rfl := hM
      exact ev_retZ false rfl hk rfl rfl
    · refine ev_op (st' := [.int 1]) (pc' := 31) hk (.iconst 1) 1 rfl rfl rfl ?_
      refine ev_jp (pc' := 35) (st' := [.int 1]) hk (.goto 4) 3 rfl rfl rfl rfl rfl ?_
      cases hx
      obtain rfl := hM
      exact ev_retZ true rfl hk rfl rfl
def qM_labelOn_2 (S : Nat) (xs : Nat → Int32) (I : zI) (C : zC) (Y : Nat → Int32) (Γ : Nat → zG) (D : zD) (O : Nat → Int32) (M : zM) (ou : Nat → Int64) (od : Nat → UInt64) (j : Nat) (a1 : Int32) (a2 : Int32) (y : (Option Value ⊕ String) × px_H) (s : Int32) : Prop := Ev S xs 113 2 [some (.ref 247), some (.int a1), some (.int a2), some (.int s)] [] (zH I C Y Γ D O M ou od j) y
set_option maxRecDepth 4000 in
theorem rM_labelOn_b2 {S : Nat} {xs : Nat → Int32} {I : zI} {C : zC} {Y : Nat → Int32} {Γ : Nat → zG} {D : zD} {O : Nat → Int32} {M : zM} {ou : Nat → Int64} {od : Nat → UInt64} {j : Nat} {a1 : Int32} {a2 : Int32} {y : (Option Value ⊕ String) × px_H} {s : Int32} {x : (Int32) ⊕ (Int32)}  (hx : fM_labelOn_b2 M a1 a2 s = some x) (hM : (Sum.elim (qM_labelOn_2 S xs I C Y Γ D O M ou od j a1 a2 y) (fun X : Int32 => y = (((.inl (some (.int X))), (zH I C Y Γ D O M ou od j)) : (Option Value ⊕ String) × px_H))) x) : qM_labelOn_2 S xs I C Y Γ D O M ou od j a1 a2 y s := by
  revert hx
  generalize s = a3
  intro hx
  have hk : pt_mt[113]? = some pt_r113 := rfl
  unfold fM_labelOn_b2 at hx
  try dsimp only at hx
  refine ev_ls (L' := [some (.ref 247), some (.int a1), some (.int a2), some (.int a3)]) (st' := [.int a3]) (pc' := 3) hk (.iload_n 3) 1 rfl rfl rfl rfl ?_
  refine ev_ls (L' := [some (.ref 247), some (.int a1), some (.int a2), some (.int a3)]) (st' := [.ref 247, .int a3]) (pc' := 4) hk (.aload_n 0) 1 rfl rfl rfl rfl ?_
  refine ev_gf (.ref 249) 7 hk rfl rfl lk_model rfl rfl ?_
  refine ev_op (st' := [.int 2, .ref 249, .int a3]) (pc' := 8) hk (.iconst 2) 1 rfl rfl rfl ?_
  refine ev_ial (v := ((mA M 249) 2)) rfl 9 hk rfl lk_m249 rfl ?_
  refine ev_d2 30 12 hk rfl rfl rfl rfl (px_cge hx (fun hc hx => ?_) (fun hc hx => ?_))
  · refine ev_op (st' := [.int (-1)]) (pc' := 31) hk (.iconst (-1)) 1 rfl rfl rfl ?_
    cases hx
    obtain rfl := hM
    exact ev_retI hk rfl rfl
  · refine ev_ls (L' := [some (.ref 247), some (.int a1), some (.int a2), some (.int a3)]) (st' := [.ref 247]) (pc' := 13) hk (.aload_n 0) 1 rfl rfl rfl rfl ?_
    refine ev_ls (L' := [some (.ref 247), some (.int a1), some (.int a2), some (.int a3)]) (st' := [.int a3, .ref 247]) (pc' := 14) hk (.iload_n 3) 1 rfl rfl rfl rfl ?_
    refine ev_ls (L' := [some (.ref 247), some (.int a1), some (.int a2), some (.int a3)]) (st' := [.int a1, .int a3, .ref 247]) (pc' := 15) hk (.iload_n 1) 1 rfl rfl rfl rfl ?_
    refine ev_ls (L' := [some (.ref 247), some (.int a1), some (.int a2), some (.int a3)]) (st' := [.int a2, .int a1, .int a3, .ref 247]) (pc' := 16) hk (.iload_n 2) 1 rfl rfl rfl rfl ?_
    obtain ⟨v1, hc2, hx⟩ := bnd_some hx
    refine ev_cv 39 3 [.int (b2i v1)] 19 hk rfl rfl rfl rfl lk_model rfl rfl rfl (rM_covers hc2) rfl rfl rfl rfl ?_
    refine ev_d1 24 22 hk rfl rfl rfl rfl (px_beq hx (fun hc hx => ?_) (fun hc hx => ?_))
    · refine ev_ls (L' := [some (.ref 247), some (.int a1), some (.int a2), some (.int (a3 + 1))]) (st' := []) (pc' := 27) hk (.iinc 3 1) 3 rfl rfl rfl rfl ?_
      refine ev_jp (pc' := 2) (st' := []) hk (.goto (-25)) 3 rfl rfl rfl rfl rfl ?_
      cases hx
      exact hM
    · refine ev_ls (L' := [some (.ref 247), some (.int a1), some (.int a2), some (.int a3)]) (st' := [.int a3]) (pc' := 23) hk (.iload_n 3) 1 rfl rfl rfl rfl ?_
      cases hx
      obtain rfl := hM
      exact ev_retI hk rfl rfl
set_option maxRecDepth 2000 in
theorem rM_labelOn {S : Nat} {xs : Nat → Int32} {I : zI} {C : zC} {Y : Nat → Int32} {Γ : Nat → zG} {D : zD} {O : Nat → Int32} {M : zM} {ou : Nat → Int64} {od : Nat → UInt64} {j : Nat} {a1 : Int32} {a2 : Int32} {X : Int32}   (hx : fM_labelOn M a1 a2 = some X) : Ev S xs 113 0 [some (.ref 247), some (.int a1), some (.int a2), none] [] (zH I C Y Γ D O M ou od j) (((.inl (some (.int X))), (zH I C Y Γ D O M ou od j)) : (Option Value ⊕ String) × px_H) := by
  generalize hM : (((.inl (some (.int X))), (zH I C Y Γ D O M ou od j)) : (Option Value ⊕ String) × px_H) = y
  replace hM := hM.symm
  have hk : pt_mt[113]? = some pt_r113 := rfl
  unfold fM_labelOn at hx
  refine ev_op (st' := [.int 0]) (pc' := 1) hk (.iconst 0) 1 rfl rfl rfl ?_
  refine ev_ls (L' := [some (.ref 247), some (.int a1), some (.int a2), some (.int 0)]) (st' := []) (pc' := 2) hk (.istore_n 3) 1 rfl rfl rfl rfl ?_
  exact ev_iter (qM_labelOn_2 S xs I C Y Γ D O M ou od j a1 a2 _) (fun X : Int32 => y = (((.inl (some (.int X))), (zH I C Y Γ D O M ou od j)) : (Option Value ⊕ String) × px_H)) (fun s x hb hM => rM_labelOn_b2 hb hM) fu _ _ hx hM 
def qM_seamAt_4 (S : Nat) (xs : Nat → Int32) (I : zI) (C : zC) (Y : Nat → Int32) (Γ : Nat → zG) (D : zD) (O : Nat → Int32) (M : zM) (ou : Nat → Int64) (od : Nat → UInt64) (j : Nat) (a1 : Int32) (y : (Option Value ⊕ String) × px_H) (s : Int32 × Int32) : Prop := Ev S xs 161 4 [some (.ref 247), some (.int a1), some (.int s.1), some (.int s.2)] [] (zH I C Y Γ D O M ou od j) y
set_option maxRecDepth 4000 in
theorem rM_seamAt_b4 {S : Nat} {xs : Nat → Int32} {I : zI} {C : zC} {Y : Nat → Int32} {Γ : Nat → zG} {D : zD} {O : Nat → Int32} {M : zM} {ou : Nat → Int64} {od : Nat → UInt64} {j : Nat} {a1 : Int32} {y : (Option Value ⊕ String) × px_H} {s : Int32 × Int32} {x : (Int32 × Int32) ⊕ (Int32)}  (hx : fM_seamAt_b4 M a1 s.1 s.2 = some x) (hM : (Sum.elim (qM_seamAt_4 S xs I C Y Γ D O M ou od j a1 y) (fun X : Int32 => y = (((.inl (some (.int X))), (zH I C Y Γ D O M ou od j)) : (Option Value ⊕ String) × px_H))) x) : qM_seamAt_4 S xs I C Y Γ D O M ou od j a1 y s := by
  obtain ⟨a2, a3⟩ := s
  have hk : pt_mt[161]? = some pt_r161 := rfl
  unfold fM_seamAt_b4 at hx
  try dsimp only at hx
  refine ev_ls (L' := [some (.ref 247), some (.int a1), some (.int a2), some (.int a3)]) (st' := [.int a3]) (pc' := 5) hk (.iload_n 3) 1 rfl rfl rfl rfl ?_
  refine ev_ls (L' := [some (.ref 247), some (.int a1), some (.int a2), some (.int a3)]) (st' := [.ref 247, .int a3]) (pc' := 6) hk (.aload_n 0) 1 rfl rfl rfl rfl ?_
  refine ev_gf (.ref 249) 9 hk rfl rfl lk_model rfl rfl ?_
  refine ev_op (st' := [.int 0, .ref 249, .int a3]) (pc' := 10) hk (.iconst 0) 1 rfl rfl rfl ?_
  refine ev_ial (v := ((mA M 249) 0)) rfl 11 hk rfl lk_m249 rfl ?_
  refine ev_d2 39 14 hk rfl rfl rfl rfl (px_cge hx (fun hc hx => ?_) (fun hc hx => ?_))
  · refine ev_op (st' := [.int (-1)]) (pc' := 40) hk (.iconst (-1)) 1 rfl rfl rfl ?_
    cases hx
    obtain rfl := hM
    exact ev_retI hk rfl rfl
  · refine ev_ls (L' := [some (.ref 247), some (.int a1), some (.int a2), some (.int a3)]) (st' := [.int a2]) (pc' := 15) hk (.iload_n 2) 1 rfl rfl rfl rfl ?_
    refine ev_ls (L' := [some (.ref 247), some (.int a1), some (.int a2), some (.int a3)]) (st' := [.int a1, .int a2]) (pc' := 16) hk (.iload_n 1) 1 rfl rfl rfl rfl ?_
    refine ev_d2 21 19 hk rfl rfl rfl rfl (px_cne hx (fun hc hx => ?_) (fun hc hx => ?_))
    · refine ev_ls (L' := [some (.ref 247), some (.int a1), some (.int a2), some (.int a3)]) (st' := [.int a2]) (pc' := 22) hk (.iload_n 2) 1 rfl rfl rfl rfl ?_
      refine ev_ls (L' := [some (.ref 247), some (.int a1), some (.int a2), some (.int a3)]) (st' := [.ref 247, .int a2]) (pc' := 23) hk (.aload_n 0) 1 rfl rfl rfl rfl ?_
      refine ev_gf (.ref 249) 26 hk rfl rfl lk_model rfl rfl ?_
      refine ev_op (st' := [.int 14, .ref 249, .int a2]) (pc' := 28) hk (.bipush 14) 2 rfl rfl rfl ?_
      refine ev_ls (L' := [some (.ref 247), some (.int a1), some (.int a2), some (.int a3)]) (st' := [.int a3, .int 14, .ref 249, .int a2]) (pc' := 29) hk (.iload_n 3) 1 rfl rfl rfl rfl ?_
      refine ev_op (st' := [.int (14 + a3), .ref 249, .int a2]) (pc' := 30) hk (.iadd) 1 rfl rfl rfl ?_
      obtain ⟨v3, hv3, hx⟩ := bnd_some hx
      refine ev_ial hv3 31 hk rfl lk_m249 rfl ?_
      refine ev_op (st' := [.int (a2 + v3)]) (pc' := 32) hk (.iadd) 1 rfl rfl rfl ?_
      refine ev_ls (L' := [some (.ref 247), some (.int a1), some (.int (a2 + v3)), some (.int a3)]) (st' := []) (pc' := 33) hk (.istore_n 2) 1 rfl rfl rfl rfl ?_
      refine ev_ls (L' := [some (.ref 247), some (.int a1), some (.int (a2 + v3)), some (.int (a3 + 1))]) (st' := []) (pc' := 36) hk (.iinc 3 1) 3 rfl rfl rfl rfl ?_
      refine ev_jp (pc' := 4) (st' := []) hk (.goto (-32)) 3 rfl rfl rfl rfl rfl ?_
      cases hx
      exact hM
    · refine ev_ls (L' := [some (.ref 247), some (.int a1), some (.int a2), some (.int a3)]) (st' := [.int a3]) (pc' := 20) hk (.iload_n 3) 1 rfl rfl rfl rfl ?_
      cases hx
      obtain rfl := hM
      exact ev_retI hk rfl rfl
set_option maxRecDepth 2000 in
theorem rM_seamAt {S : Nat} {xs : Nat → Int32} {I : zI} {C : zC} {Y : Nat → Int32} {Γ : Nat → zG} {D : zD} {O : Nat → Int32} {M : zM} {ou : Nat → Int64} {od : Nat → UInt64} {j : Nat} {a1 : Int32} {X : Int32}   (hx : fM_seamAt M a1 = some X) : Ev S xs 161 0 [some (.ref 247), some (.int a1), none, none] [] (zH I C Y Γ D O M ou od j) (((.inl (some (.int X))), (zH I C Y Γ D O M ou od j)) : (Option Value ⊕ String) × px_H) := by
  generalize hM : (((.inl (some (.int X))), (zH I C Y Γ D O M ou od j)) : (Option Value ⊕ String) × px_H) = y
  replace hM := hM.symm
  have hk : pt_mt[161]? = some pt_r161 := rfl
  unfold fM_seamAt at hx
  refine ev_op (st' := [.int 0]) (pc' := 1) hk (.iconst 0) 1 rfl rfl rfl ?_
  refine ev_ls (L' := [some (.ref 247), some (.int a1), some (.int 0), none]) (st' := []) (pc' := 2) hk (.istore_n 2) 1 rfl rfl rfl rfl ?_
  refine ev_op (st' := [.int 0]) (pc' := 3) hk (.iconst 0) 1 rfl rfl rfl ?_
  refine ev_ls (L' := [some (.ref 247), some (.int a1), some (.int 0), some (.int 0)]) (st' := []) (pc' := 4) hk (.istore_n 3) 1 rfl rfl rfl rfl ?_
  exact ev_iter (qM_seamAt_4 S xs I C Y Γ D O M ou od j a1 _) (fun X : Int32 => y = (((.inl (some (.int X))), (zH I C Y Γ D O M ou od j)) : (Option Value ⊕ String) × px_H)) (fun s x hb hM => rM_seamAt_b4 hb hM) fu _ _ hx hM 
set_option maxRecDepth 2000 in
theorem rM_isTornSeam {S : Nat} {xs : Nat → Int32} {I : zI} {C : zC} {Y : Nat → Int32} {Γ : Nat → zG} {D : zD} {O : Nat → Int32} {M : zM} {ou : Nat → Int64} {od : Nat → UInt64} {j : Nat} {a1 : Int32} {X : Bool}   (hx : fM_isTornSeam M a1 = some X) : Ev S xs 98 0 [some (.ref 247), some (.int a1)] [] (zH I C Y Γ D O M ou od j) (((.inl (some (.int (b2i X)))), (zH I C Y Γ D O M ou od j)) : (Option Value ⊕ String) × px_H) := by
  generalize hM : (((.inl (some (.int (b2i X)))), (zH I C Y Γ D O M ou od j)) : (Option Value ⊕ String) × px_H) = y
  replace hM := hM.symm
  have hk : pt_mt[98]? = some pt_r98 := rfl
  unfold fM_isTornSeam at hx
  refine ev_ls (L' := [some (.ref 247), some (.int a1)]) (st' := [.ref 247]) (pc' := 1) hk (.aload_n 0) 1 rfl rfl rfl rfl ?_
  refine ev_gf (.ref 249) 4 hk rfl rfl lk_model rfl rfl ?_
  refine ev_op (st' := [.int 26, .ref 249]) (pc' := 6) hk (.bipush 26) 2 rfl rfl rfl ?_
  refine ev_ls (L' := [some (.ref 247), some (.int a1)]) (st' := [.int a1, .int 26, .ref 249]) (pc' := 7) hk (.iload_n 1) 1 rfl rfl rfl rfl ?_
  refine ev_op (st' := [.int (26 + a1), .ref 249]) (pc' := 8) hk (.iadd) 1 rfl rfl rfl ?_
  obtain ⟨v2, hv2, hx⟩ := bnd_some hx
  refine ev_ial hv2 9 hk rfl lk_m249 rfl ?_
  refine ev_d1 16 12 hk rfl rfl rfl rfl (px_cne hx (fun hc hx => ?_) (fun hc hx => ?_))
  · refine ev_op (st' := [.int 0]) (pc' := 17) hk (.iconst 0) 1 rfl rfl rfl ?_
    cases hx
    obtain rfl := hM
    exact ev_retZ false rfl hk rfl rfl
  · refine ev_op (st' := [.int 1]) (pc' := 13) hk (.iconst 1) 1 rfl rfl rfl ?_
    refine ev_jp (pc' := 17) (st' := [.int 1]) hk (.goto 4) 3 rfl rfl rfl rfl rfl ?_
    cases hx
    obtain rfl := hM
    exact ev_retZ true rfl hk rfl rfl
set_option maxRecDepth 2000 in
theorem rM_isTornAt {S : Nat} {xs : Nat → Int32} {I : zI} {C : zC} {Y : Nat → Int32} {Γ : Nat → zG} {D : zD} {O : Nat → Int32} {M : zM} {ou : Nat → Int64} {od : Nat → UInt64} {j : Nat} {a1 : Int32} {X : Bool}   (hx : fM_isTornAt M a1 = some X) : Ev S xs 97 0 [some (.ref 247), some (.int a1), none] [] (zH I C Y Γ D O M ou od j) (((.inl (some (.int (b2i X)))), (zH I C Y Γ D O M ou od j)) : (Option Value ⊕ String) × px_H) := by
  generalize hM : (((.inl (some (.int (b2i X)))), (zH I C Y Γ D O M ou od j)) : (Option Value ⊕ String) × px_H) = y
  replace hM := hM.symm
  have hk : pt_mt[97]? = some pt_r97 := rfl
  unfold fM_isTornAt at hx
  refine ev_ls (L' := [some (.ref 247), some (.int a1), none]) (st' := [.ref 247]) (pc' := 1) hk (.aload_n 0) 1 rfl rfl rfl rfl ?_
  refine ev_ls (L' := [some (.ref 247), some (.int a1), none]) (st' := [.int a1, .ref 247]) (pc' := 2) hk (.iload_n 1) 1 rfl rfl rfl rfl ?_
  obtain ⟨v1, hc2, hx⟩ := bnd_some hx
  refine ev_cv 161 1 [.int v1] 5 hk rfl rfl rfl rfl lk_model rfl rfl rfl (rM_seamAt hc2) rfl rfl rfl rfl ?_
  refine ev_ls (L' := [some (.ref 247), some (.int a1), some (.int v1)]) (st' := []) (pc' := 6) hk (.istore_n 2) 1 rfl rfl rfl rfl ?_
  refine ev_ls (L' := [some (.ref 247), some (.int a1), some (.int v1)]) (st' := [.int v1]) (pc' := 7) hk (.iload_n 2) 1 rfl rfl rfl rfl ?_
  refine ev_op (st' := [.int (-1), .int v1]) (pc' := 8) hk (.iconst (-1)) 1 rfl rfl rfl ?_
  refine ev_d2 23 11 hk rfl rfl rfl rfl (px_ceq hx (fun hc hx => ?_) (fun hc hx => ?_))
  · refine ev_op (st' := [.int 0]) (pc' := 24) hk (.iconst 0) 1 rfl rfl rfl ?_
    cases hx
    obtain rfl := hM
    exact ev_retZ false rfl hk rfl rfl
  · refine ev_ls (L' := [some (.ref 247), some (.int a1), some (.int v1)]) (st' := [.ref 247]) (pc' := 12) hk (.aload_n 0) 1 rfl rfl rfl rfl ?_
    refine ev_ls (L' := [some (.ref 247), some (.int a1), some (.int v1)]) (st' := [.int v1, .ref 247]) (pc' := 13) hk (.iload_n 2) 1 rfl rfl rfl rfl ?_
    obtain ⟨v3, hc4, hx⟩ := bnd_some hx
    refine ev_cv 98 1 [.int (b2i v3)] 16 hk rfl rfl rfl rfl lk_model rfl rfl rfl (rM_isTornSeam hc4) rfl rfl rfl rfl ?_
    refine ev_d1 23 19 hk rfl rfl rfl rfl (px_beq hx (fun hc hx => ?_) (fun hc hx => ?_))
    · refine ev_op (st' := [.int 0]) (pc' := 24) hk (.iconst 0) 1 rfl rfl rfl ?_
      cases hx
      obtain rfl := hM
      exact ev_retZ false rfl hk rfl rfl
    · refine ev_op (st' := [.int 1]) (pc' := 20) hk (.iconst 1) 1 rfl rfl rfl ?_
      refine ev_jp (pc' := 24) (st' := [.int 1]) hk (.goto 4) 3 rfl rfl rfl rfl rfl ?_
      cases hx
      obtain rfl := hM
      exact ev_retZ true rfl hk rfl rfl
def qM_byteOf_6 (S : Nat) (xs : Nat → Int32) (I : zI) (C : zC) (Y : Nat → Int32) (Γ : Nat → zG) (D : zD) (O : Nat → Int32) (M : zM) (ou : Nat → Int64) (od : Nat → UInt64) (j : Nat) (a1 : Int32) (a2 : Int32) (y : (Option Value ⊕ String) × px_H) (s : Int32 × Int32) : Prop := Ev S xs 32 6 [some (.ref 247), some (.int a1), some (.int a2), some (.int s.1), some (.int s.2)] [] (zH I C Y Γ D O M ou od j) y
set_option maxRecDepth 4000 in
theorem rM_byteOf_j35 {S : Nat} {xs : Nat → Int32} {I : zI} {C : zC} {Y : Nat → Int32} {Γ : Nat → zG} {D : zD} {O : Nat → Int32} {M : zM} {ou : Nat → Int64} {od : Nat → UInt64} {j : Nat} {a1 : Int32} {a2 : Int32} {a3 : Int32} {a4 : Int32} {y : (Option Value ⊕ String) × px_H} {x : (Int32 × Int32) ⊕ (Int32)}  (hx : fM_byteOf_j35 M a1 a2 a3 a4 = some x) (hM : (Sum.elim (qM_byteOf_6 S xs I C Y Γ D O M ou od j a1 a2 y) (fun X : Int32 => y = (((.inl (some (.int X))), (zH I C Y Γ D O M ou od j)) : (Option Value ⊕ String) × px_H))) x)  : Ev S xs 32 35 [some (.ref 247), some (.int a1), some (.int a2), some (.int a3), some (.int a4)] [] (zH I C Y Γ D O M ou od j) y := by
  have hk : pt_mt[32]? = some pt_r32 := rfl
  unfold fM_byteOf_j35 at hx
  refine ev_ls (L' := [some (.ref 247), some (.int a1), some (.int a2), some (.int a3), some (.int a4)]) (st' := [.ref 247]) (pc' := 36) hk (.aload_n 0) 1 rfl rfl rfl rfl ?_
  refine ev_ls (L' := [some (.ref 247), some (.int a1), some (.int a2), some (.int a3), some (.int a4)]) (st' := [.int a4, .ref 247]) (pc' := 38) hk (.iload 4) 2 rfl rfl rfl rfl ?_
  obtain ⟨v3, hc4, hx⟩ := bnd_some hx
  refine ev_cv 161 1 [.int v3] 41 hk rfl rfl rfl rfl lk_model rfl rfl rfl (rM_seamAt hc4) rfl rfl rfl rfl ?_
  refine ev_op (st' := [.int (-1), .int v3]) (pc' := 42) hk (.iconst (-1)) 1 rfl rfl rfl ?_
  refine ev_d2 68 45 hk rfl rfl rfl rfl (px_ceq hx (fun hc hx => ?_) (fun hc hx => ?_))
  · refine ev_ls (L' := [some (.ref 247), some (.int a1), some (.int a2), some (.int a3), some (.int (a4 + 1))]) (st' := []) (pc' := 71) hk (.iinc 4 1) 3 rfl rfl rfl rfl ?_
    refine ev_jp (pc' := 6) (st' := []) hk (.goto (-65)) 3 rfl rfl rfl rfl rfl ?_
    cases hx
    exact hM
  · refine ev_ls (L' := [some (.ref 247), some (.int a1), some (.int a2), some (.int a3), some (.int a4)]) (st' := [.int a3]) (pc' := 46) hk (.iload_n 3) 1 rfl rfl rfl rfl ?_
    refine ev_op (st' := [.int 120, .int a3]) (pc' := 48) hk (.bipush 120) 2 rfl rfl rfl ?_
    refine ev_d2 68 51 hk rfl rfl rfl rfl (px_ceq hx (fun hc hx => ?_) (fun hc hx => ?_))
    · refine ev_ls (L' := [some (.ref 247), some (.int a1), some (.int a2), some (.int a3), some (.int (a4 + 1))]) (st' := []) (pc' := 71) hk (.iinc 4 1) 3 rfl rfl rfl rfl ?_
      refine ev_jp (pc' := 6) (st' := []) hk (.goto (-65)) 3 rfl rfl rfl rfl rfl ?_
      cases hx
      exact hM
    · refine ev_ls (L' := [some (.ref 247), some (.int a1), some (.int a2), some (.int a3), some (.int a4)]) (st' := [.ref 247]) (pc' := 52) hk (.aload_n 0) 1 rfl rfl rfl rfl ?_
      refine ev_ls (L' := [some (.ref 247), some (.int a1), some (.int a2), some (.int a3), some (.int a4)]) (st' := [.int a4, .ref 247]) (pc' := 54) hk (.iload 4) 2 rfl rfl rfl rfl ?_
      obtain ⟨v5, hc6, hx⟩ := bnd_some hx
      refine ev_cv 97 1 [.int (b2i v5)] 57 hk rfl rfl rfl rfl lk_model rfl rfl rfl (rM_isTornAt hc6) rfl rfl rfl rfl ?_
      refine ev_d1 65 60 hk rfl rfl rfl rfl (px_beq hx (fun hc hx => ?_) (fun hc hx => ?_))
      · refine ev_op (st' := [.int 43]) (pc' := 67) hk (.bipush 43) 2 rfl rfl rfl ?_
        refine ev_ls (L' := [some (.ref 247), some (.int a1), some (.int a2), some (.int 43), some (.int a4)]) (st' := []) (pc' := 68) hk (.istore_n 3) 1 rfl rfl rfl rfl ?_
        refine ev_ls (L' := [some (.ref 247), some (.int a1), some (.int a2), some (.int 43), some (.int (a4 + 1))]) (st' := []) (pc' := 71) hk (.iinc 4 1) 3 rfl rfl rfl rfl ?_
        refine ev_jp (pc' := 6) (st' := []) hk (.goto (-65)) 3 rfl rfl rfl rfl rfl ?_
        cases hx
        exact hM
      · refine ev_op (st' := [.int 120]) (pc' := 62) hk (.bipush 120) 2 rfl rfl rfl ?_
        refine ev_jp (pc' := 67) (st' := [.int 120]) hk (.goto 5) 3 rfl rfl rfl rfl rfl ?_
        refine ev_ls (L' := [some (.ref 247), some (.int a1), some (.int a2), some (.int 120), some (.int a4)]) (st' := []) (pc' := 68) hk (.istore_n 3) 1 rfl rfl rfl rfl ?_
        refine ev_ls (L' := [some (.ref 247), some (.int a1), some (.int a2), some (.int 120), some (.int (a4 + 1))]) (st' := []) (pc' := 71) hk (.iinc 4 1) 3 rfl rfl rfl rfl ?_
        refine ev_jp (pc' := 6) (st' := []) hk (.goto (-65)) 3 rfl rfl rfl rfl rfl ?_
        cases hx
        exact hM
set_option maxRecDepth 4000 in
theorem rM_byteOf_b6 {S : Nat} {xs : Nat → Int32} {I : zI} {C : zC} {Y : Nat → Int32} {Γ : Nat → zG} {D : zD} {O : Nat → Int32} {M : zM} {ou : Nat → Int64} {od : Nat → UInt64} {j : Nat} {a1 : Int32} {a2 : Int32} {y : (Option Value ⊕ String) × px_H} {s : Int32 × Int32} {x : (Int32 × Int32) ⊕ (Int32)}  (hx : fM_byteOf_b6 M a1 a2 s.1 s.2 = some x) (hM : (Sum.elim (qM_byteOf_6 S xs I C Y Γ D O M ou od j a1 a2 y) (fun X : Int32 => y = (((.inl (some (.int X))), (zH I C Y Γ D O M ou od j)) : (Option Value ⊕ String) × px_H))) x) : qM_byteOf_6 S xs I C Y Γ D O M ou od j a1 a2 y s := by
  obtain ⟨a3, a4⟩ := s
  have hk : pt_mt[32]? = some pt_r32 := rfl
  unfold fM_byteOf_b6 at hx
  try dsimp only at hx
  refine ev_ls (L' := [some (.ref 247), some (.int a1), some (.int a2), some (.int a3), some (.int a4)]) (st' := [.int a4]) (pc' := 8) hk (.iload 4) 2 rfl rfl rfl rfl ?_
  refine ev_ls (L' := [some (.ref 247), some (.int a1), some (.int a2), some (.int a3), some (.int a4)]) (st' := [.int a2, .int a4]) (pc' := 9) hk (.iload_n 2) 1 rfl rfl rfl rfl ?_
  refine ev_op (st' := [.int 10, .int a2, .int a4]) (pc' := 11) hk (.bipush 10) 2 rfl rfl rfl ?_
  refine ev_op (st' := [.int (a2 + 10), .int a4]) (pc' := 12) hk (.iadd) 1 rfl rfl rfl ?_
  refine ev_d2 74 15 hk rfl rfl rfl rfl (px_cge hx (fun hc hx => ?_) (fun hc hx => ?_))
  · refine ev_ls (L' := [some (.ref 247), some (.int a1), some (.int a2), some (.int a3), some (.int a4)]) (st' := [.ref 247]) (pc' := 75) hk (.aload_n 0) 1 rfl rfl rfl rfl ?_
    refine ev_gf (.ref 249) 78 hk rfl rfl lk_model rfl rfl ?_
    refine ev_op (st' := [.int 5, .ref 249]) (pc' := 79) hk (.iconst 5) 1 rfl rfl rfl ?_
    refine ev_ls (L' := [some (.ref 247), some (.int a1), some (.int a2), some (.int a3), some (.int a4)]) (st' := [.int a1, .int 5, .ref 249]) (pc' := 80) hk (.iload_n 1) 1 rfl rfl rfl rfl ?_
    refine ev_op (st' := [.int (5 + a1), .ref 249]) (pc' := 81) hk (.iadd) 1 rfl rfl rfl ?_
    obtain ⟨v7, hv7, hx⟩ := bnd_some hx
    refine ev_ial hv7 82 hk rfl lk_m249 rfl ?_
    refine ev_op (st' := [.long (Int32.toInt64 v7)]) (pc' := 83) hk (.i2l) 1 rfl rfl rfl ?_
    refine ev_ls (L' := [some (.ref 247), some (.int a1), some (.int a2), some (.int a3), some (.int a4)]) (st' := [.int a2, .long (Int32.toInt64 v7)]) (pc' := 84) hk (.iload_n 2) 1 rfl rfl rfl rfl ?_
    refine ev_op (st' := [.long (Int32.toInt64 a2), .long (Int32.toInt64 v7)]) (pc' := 85) hk (.i2l) 1 rfl rfl rfl ?_
    refine ev_ls (L' := [some (.ref 247), some (.int a1), some (.int a2), some (.int a3), some (.int a4)]) (st' := [.int a2, .long (Int32.toInt64 a2), .long (Int32.toInt64 v7)]) (pc' := 86) hk (.iload_n 2) 1 rfl rfl rfl rfl ?_
    refine ev_op (st' := [.int 9, .int a2, .long (Int32.toInt64 a2), .long (Int32.toInt64 v7)]) (pc' := 88) hk (.bipush 9) 2 rfl rfl rfl ?_
    refine ev_op (st' := [.int (a2 + 9), .long (Int32.toInt64 a2), .long (Int32.toInt64 v7)]) (pc' := 89) hk (.iadd) 1 rfl rfl rfl ?_
    refine ev_op (st' := [.long (Int32.toInt64 (a2 + 9)), .long (Int32.toInt64 a2), .long (Int32.toInt64 v7)]) (pc' := 90) hk (.i2l) 1 rfl rfl rfl ?_
    refine ev_cs 86 3 [.int (b2i (fM_isIn (Int32.toInt64 v7) (Int32.toInt64 a2) (Int32.toInt64 (a2 + 9))))] 93 hk rfl rfl (by decide) rfl rfl rfl (rM_isIn rfl) rfl rfl rfl rfl ?_
    refine ev_d1 101 96 hk rfl rfl rfl rfl (px_beq hx (fun hc hx => ?_) (fun hc hx => ?_))
    · refine ev_ls (L' := [some (.ref 247), some (.int a1), some (.int a2), some (.int a3), some (.int a4)]) (st' := [.int a3]) (pc' := 102) hk (.iload_n 3) 1 rfl rfl rfl rfl ?_
      cases hx
      obtain rfl := hM
      exact ev_retI hk rfl rfl
    · refine ev_op (st' := [.int 72]) (pc' := 98) hk (.bipush 72) 2 rfl rfl rfl ?_
      refine ev_jp (pc' := 102) (st' := [.int 72]) hk (.goto 4) 3 rfl rfl rfl rfl rfl ?_
      cases hx
      obtain rfl := hM
      exact ev_retI hk rfl rfl
  · refine ev_ls (L' := [some (.ref 247), some (.int a1), some (.int a2), some (.int a3), some (.int a4)]) (st' := [.int a3]) (pc' := 16) hk (.iload_n 3) 1 rfl rfl rfl rfl ?_
    refine ev_op (st' := [.int 46, .int a3]) (pc' := 18) hk (.bipush 46) 2 rfl rfl rfl ?_
    refine ev_d2 35 21 hk rfl rfl rfl rfl (px_cne hx (fun hc hx => ?_) (fun hc hx => ?_))
    · exact rM_byteOf_j35 hx hM 
    · refine ev_ls (L' := [some (.ref 247), some (.int a1), some (.int a2), some (.int a3), some (.int a4)]) (st' := [.ref 247]) (pc' := 22) hk (.aload_n 0) 1 rfl rfl rfl rfl ?_
      refine ev_ls (L' := [some (.ref 247), some (.int a1), some (.int a2), some (.int a3), some (.int a4)]) (st' := [.int a1, .ref 247]) (pc' := 23) hk (.iload_n 1) 1 rfl rfl rfl rfl ?_
      refine ev_ls (L' := [some (.ref 247), some (.int a1), some (.int a2), some (.int a3), some (.int a4)]) (st' := [.int a4, .int a1, .ref 247]) (pc' := 25) hk (.iload 4) 2 rfl rfl rfl rfl ?_
      obtain ⟨v8, hc9, hx⟩ := bnd_some hx
      refine ev_cv 113 2 [.int v8] 28 hk rfl rfl rfl rfl lk_model rfl rfl rfl (rM_labelOn hc9) rfl rfl rfl rfl ?_
      refine ev_op (st' := [.int (-1), .int v8]) (pc' := 29) hk (.iconst (-1)) 1 rfl rfl rfl ?_
      refine ev_d2 35 32 hk rfl rfl rfl rfl (px_ceq hx (fun hc hx => ?_) (fun hc hx => ?_))
      · exact rM_byteOf_j35 hx hM 
      · refine ev_op (st' := [.int 97]) (pc' := 34) hk (.bipush 97) 2 rfl rfl rfl ?_
        refine ev_ls (L' := [some (.ref 247), some (.int a1), some (.int a2), some (.int 97), some (.int a4)]) (st' := []) (pc' := 35) hk (.istore_n 3) 1 rfl rfl rfl rfl ?_
        exact rM_byteOf_j35 hx hM 
set_option maxRecDepth 2000 in
theorem rM_byteOf {S : Nat} {xs : Nat → Int32} {I : zI} {C : zC} {Y : Nat → Int32} {Γ : Nat → zG} {D : zD} {O : Nat → Int32} {M : zM} {ou : Nat → Int64} {od : Nat → UInt64} {j : Nat} {a1 : Int32} {a2 : Int32} {X : Int32}   (hx : fM_byteOf M a1 a2 = some X) : Ev S xs 32 0 [some (.ref 247), some (.int a1), some (.int a2), none, none] [] (zH I C Y Γ D O M ou od j) (((.inl (some (.int X))), (zH I C Y Γ D O M ou od j)) : (Option Value ⊕ String) × px_H) := by
  generalize hM : (((.inl (some (.int X))), (zH I C Y Γ D O M ou od j)) : (Option Value ⊕ String) × px_H) = y
  replace hM := hM.symm
  have hk : pt_mt[32]? = some pt_r32 := rfl
  unfold fM_byteOf at hx
  refine ev_op (st' := [.int 46]) (pc' := 2) hk (.bipush 46) 2 rfl rfl rfl ?_
  refine ev_ls (L' := [some (.ref 247), some (.int a1), some (.int a2), some (.int 46), none]) (st' := []) (pc' := 3) hk (.istore_n 3) 1 rfl rfl rfl rfl ?_
  refine ev_ls (L' := [some (.ref 247), some (.int a1), some (.int a2), some (.int 46), none]) (st' := [.int a2]) (pc' := 4) hk (.iload_n 2) 1 rfl rfl rfl rfl ?_
  refine ev_ls (L' := [some (.ref 247), some (.int a1), some (.int a2), some (.int 46), some (.int a2)]) (st' := []) (pc' := 6) hk (.istore 4) 2 rfl rfl rfl rfl ?_
  exact ev_iter (qM_byteOf_6 S xs I C Y Γ D O M ou od j a1 a2 _) (fun X : Int32 => y = (((.inl (some (.int X))), (zH I C Y Γ D O M ou od j)) : (Option Value ⊕ String) × px_H)) (fun s x hb hM => rM_byteOf_b6 hb hM) fu _ _ hx hM 
def qM_printBand_15 (S : Nat) (xs : Nat → Int32) (I : zI) (C : zC) (Y : Nat → Int32) (Γ : Nat → zG) (D : zD) (O : Nat → Int32) (ou : Nat → Int64) (od : Nat → UInt64) (j : Nat) (a1 : Int32) (y : (Option Value ⊕ String) × px_H) (s : zM × Int32) : Prop := Ev S xs 151 15 [some (.ref 247), some (.int a1), some (.int s.2)] [] (zH I C Y Γ D O s.1 ou od j) y
set_option maxRecDepth 4000 in
theorem rM_printBand_b15 {S : Nat} {xs : Nat → Int32} {I : zI} {C : zC} {Y : Nat → Int32} {Γ : Nat → zG} {D : zD} {O : Nat → Int32} {ou : Nat → Int64} {od : Nat → UInt64} {j : Nat} {a1 : Int32} {y : (Option Value ⊕ String) × px_H} {s : zM × Int32} {x : (zM × Int32) ⊕ (Int32 × zM)}  (hx : fM_printBand_b15 a1 s.1 s.2 = some x) (hM : (Sum.elim (qM_printBand_15 S xs I C Y Γ D O ou od j a1 y) (fun X : Int32 × zM => y = (((.inl (some (.int X.1))), (zH I C Y Γ D O X.2 ou od j)) : (Option Value ⊕ String) × px_H))) x) : qM_printBand_15 S xs I C Y Γ D O ou od j a1 y s := by
  obtain ⟨M, a2⟩ := s
  have hk : pt_mt[151]? = some pt_r151 := rfl
  unfold fM_printBand_b15 at hx
  try dsimp only at hx
  refine ev_ls (L' := [some (.ref 247), some (.int a1), some (.int a2)]) (st' := [.int a2]) (pc' := 16) hk (.iload_n 2) 1 rfl rfl rfl rfl ?_
  refine ev_op (st' := [.int 36, .int a2]) (pc' := 18) hk (.bipush 36) 2 rfl rfl rfl ?_
  refine ev_d2 42 21 hk rfl rfl rfl rfl (px_cge hx (fun hc hx => ?_) (fun hc hx => ?_))
  · refine ev_ls (L' := [some (.ref 247), some (.int a1), some (.int a2)]) (st' := [.ref 247]) (pc' := 43) hk (.aload_n 0) 1 rfl rfl rfl rfl ?_
    refine ev_gf (.ref 260) 46 hk rfl rfl lk_model rfl rfl ?_
    refine ev_op (st' := [.int 36, .ref 260]) (pc' := 48) hk (.bipush 36) 2 rfl rfl rfl ?_
    refine ev_op (st' := [.int 10, .int 36, .ref 260]) (pc' := 50) hk (.bipush 10) 2 rfl rfl rfl ?_
    obtain ⟨M8, hM8, hx⟩ := bnd_some hx
    have hM8 := Option.some.inj hM8
    refine ev_ias (A := (upd (mA M 260) 36 10)) rfl 51 hk rfl lk_m260 (sa_m260 hM8) rfl ?_
    refine ev_ls (L' := [some (.ref 247), some (.int a1), some (.int a2)]) (st' := [.ref 247]) (pc' := 52) hk (.aload_n 0) 1 rfl rfl rfl rfl ?_
    refine ev_op (st' := [.int 37, .ref 247]) (pc' := 54) hk (.bipush 37) 2 rfl rfl rfl ?_
    obtain ⟨M9, hM9, hx⟩ := bnd_some hx
    have hM9 := Option.some.inj hM9
    refine ev_pf 57 hk rfl rfl lk_model rfl rfl rfl (sf_8_31 hM9) rfl ?_
    refine ev_ls (L' := [some (.ref 247), some (.int a1), some (.int a2)]) (st' := [.ref 247]) (pc' := 58) hk (.aload_n 0) 1 rfl rfl rfl rfl ?_
    refine ev_gf (.int (mF M9 31)) 61 hk rfl rfl lk_model rfl rfl ?_
    cases hx
    obtain rfl := hM
    exact ev_retI hk rfl rfl
  · refine ev_ls (L' := [some (.ref 247), some (.int a1), some (.int a2)]) (st' := [.ref 247]) (pc' := 22) hk (.aload_n 0) 1 rfl rfl rfl rfl ?_
    refine ev_gf (.ref 260) 25 hk rfl rfl lk_model rfl rfl ?_
    refine ev_ls (L' := [some (.ref 247), some (.int a1), some (.int a2)]) (st' := [.int a2, .ref 260]) (pc' := 26) hk (.iload_n 2) 1 rfl rfl rfl rfl ?_
    refine ev_ls (L' := [some (.ref 247), some (.int a1), some (.int a2)]) (st' := [.ref 247, .int a2, .ref 260]) (pc' := 27) hk (.aload_n 0) 1 rfl rfl rfl rfl ?_
    refine ev_ls (L' := [some (.ref 247), some (.int a1), some (.int a2)]) (st' := [.int a1, .ref 247, .int a2, .ref 260]) (pc' := 28) hk (.iload_n 1) 1 rfl rfl rfl rfl ?_
    refine ev_op (st' := [.int 10, .int a1, .ref 247, .int a2, .ref 260]) (pc' := 30) hk (.bipush 10) 2 rfl rfl rfl ?_
    refine ev_ls (L' := [some (.ref 247), some (.int a1), some (.int a2)]) (st' := [.int a2, .int 10, .int a1, .ref 247, .int a2, .ref 260]) (pc' := 31) hk (.iload_n 2) 1 rfl rfl rfl rfl ?_
    refine ev_op (st' := [.int (10 * a2), .int a1, .ref 247, .int a2, .ref 260]) (pc' := 32) hk (.imul) 1 rfl rfl rfl ?_
    obtain ⟨v10, hc11, hx⟩ := bnd_some hx
    refine ev_cv 32 2 [.int v10, .int a2, .ref 260] 35 hk rfl rfl rfl rfl lk_model rfl rfl rfl (rM_byteOf hc11) rfl rfl rfl rfl ?_
    obtain ⟨A12, hA12, hx⟩ := bnd_some hx
    obtain ⟨M13, hM13, hx⟩ := bnd_some hx
    have hM13 := Option.some.inj hM13
    refine ev_ias hA12 36 hk rfl lk_m260 (sa_m260 hM13) rfl ?_
    refine ev_ls (L' := [some (.ref 247), some (.int a1), some (.int (a2 + 1))]) (st' := []) (pc' := 39) hk (.iinc 2 1) 3 rfl rfl rfl rfl ?_
    refine ev_jp (pc' := 15) (st' := []) hk (.goto (-24)) 3 rfl rfl rfl rfl rfl ?_
    cases hx
    exact hM
set_option maxRecDepth 2000 in
theorem rM_printBand {S : Nat} {xs : Nat → Int32} {I : zI} {C : zC} {Y : Nat → Int32} {Γ : Nat → zG} {D : zD} {O : Nat → Int32} {M : zM} {ou : Nat → Int64} {od : Nat → UInt64} {j : Nat} {a1 : Int32} {X : Int32 × zM}   (hx : fM_printBand M a1 = some X) : Ev S xs 151 0 [some (.ref 247), some (.int a1), none] [] (zH I C Y Γ D O M ou od j) (((.inl (some (.int X.1))), (zH I C Y Γ D O X.2 ou od j)) : (Option Value ⊕ String) × px_H) := by
  generalize hM : (((.inl (some (.int X.1))), (zH I C Y Γ D O X.2 ou od j)) : (Option Value ⊕ String) × px_H) = y
  replace hM := hM.symm
  have hk : pt_mt[151]? = some pt_r151 := rfl
  unfold fM_printBand at hx
  refine ev_ls (L' := [some (.ref 247), some (.int a1), none]) (st' := [.ref 247]) (pc' := 1) hk (.aload_n 0) 1 rfl rfl rfl rfl ?_
  refine ev_ls (L' := [some (.ref 247), some (.int a1), none]) (st' := [.int a1, .ref 247]) (pc' := 2) hk (.iload_n 1) 1 rfl rfl rfl rfl ?_
  refine ev_cs 79 1 [.int (b2i (fM_isBand a1)), .ref 247] 5 hk rfl rfl (by decide) rfl rfl rfl (rM_isBand rfl) rfl rfl rfl rfl ?_
  obtain ⟨v15, M14, hc16, hx⟩ := bnd2_some hx
  refine ev_cv 59 1 [.int (b2i v15)] 8 hk rfl rfl rfl rfl lk_model rfl rfl rfl (rM_goes hc16) rfl rfl rfl rfl ?_
  refine ev_d1 13 11 hk rfl rfl rfl rfl (px_bne hx (fun hc hx => ?_) (fun hc hx => ?_))
  · refine ev_op (st' := [.int 0]) (pc' := 14) hk (.iconst 0) 1 rfl rfl rfl ?_
    refine ev_ls (L' := [some (.ref 247), some (.int a1), some (.int 0)]) (st' := []) (pc' := 15) hk (.istore_n 2) 1 rfl rfl rfl rfl ?_
    exact ev_iter (qM_printBand_15 S xs I C Y Γ D O ou od j a1 _) (fun X : Int32 × zM => y = (((.inl (some (.int X.1))), (zH I C Y Γ D O X.2 ou od j)) : (Option Value ⊕ String) × px_H)) (fun s x hb hM => rM_printBand_b15 hb hM) fu _ _ hx hM 
  · refine ev_op (st' := [.int 0]) (pc' := 12) hk (.iconst 0) 1 rfl rfl rfl ?_
    cases hx
    obtain rfl := hM
    exact ev_retI hk rfl rfl
set_option maxRecDepth 2000 in
theorem rY_recall {S : Nat} {xs : Nat → Int32} {I : zI} {C : zC} {Y : Nat → Int32} {Γ : Nat → zG} {D : zD} {O : Nat → Int32} {M : zM} {ou : Nat → Int64} {od : Nat → UInt64} {j : Nat} {g : Nat}  {X : (Nat → Int32) × (Nat → zG)}  (hg : isG g) (hlo : g < 88) (hx : fY_recall Y Γ g = some X) : Ev S xs 260 0 [some (.ref 88), some (.ref g)] [] (zH I C Y Γ D O M ou od j) (((.inl none), (zH I C X.1 X.2 D O M ou od j)) : (Option Value ⊕ String) × px_H) := by
  generalize hM : (((.inl none), (zH I C X.1 X.2 D O M ou od j)) : (Option Value ⊕ String) × px_H) = y
  replace hM := hM.symm
  have hk : pt_mt[260]? = some pt_r260 := rfl
  unfold fY_recall at hx
  refine ev_ls (L' := [some (.ref 88), some (.ref g)]) (st' := [.ref g]) (pc' := 1) hk (.aload_n 1) 1 rfl rfl rfl rfl ?_
  refine ev_ls (L' := [some (.ref 88), some (.ref g)]) (st' := [.ref 88, .ref g]) (pc' := 2) hk (.aload_n 0) 1 rfl rfl rfl rfl ?_
  refine ev_gf (.ref 89) 5 hk rfl rfl lk_hist rfl rfl ?_
  refine ev_ls (L' := [some (.ref 88), some (.ref g)]) (st' := [.ref 88, .ref 89, .ref g]) (pc' := 6) hk (.aload_n 0) 1 rfl rfl rfl rfl ?_
  refine ev_gf (.int (Y 1)) 9 hk rfl rfl lk_hist rfl rfl ?_
  obtain ⟨p4, hp4, hx⟩ := bnd_some hx
  have hpp4 := rix_lt hp4
  refine ev_aal (90 + 26 * p4) hp4 10 hk rfl lk_before (by decide) (lk_be hpp4) rfl ?_
  obtain ⟨G5, hc6, hx⟩ := bnd_some hx
  refine ev_cv 217 1 [] 13 hk rfl rfl rfl rfl (lk_globe hg rfl) rfl rfl rfl (ev_gs (rG_copyFrom hg (isG_h hpp4) (ne_h_lo hlo) rfl hc6)) rfl rfl rfl rfl ?_
  refine ev_ls (L' := [some (.ref 88), some (.ref g)]) (st' := [.ref 88]) (pc' := 14) hk (.aload_n 0) 1 rfl rfl rfl rfl ?_
  refine ev_ls (L' := [some (.ref 88), some (.ref g)]) (st' := [.ref 88, .ref 88]) (pc' := 15) hk (.aload_n 0) 1 rfl rfl rfl rfl ?_
  refine ev_gf (.int (Y 1)) 18 hk rfl rfl lk_hist rfl rfl ?_
  refine ev_op (st' := [.int 6, .int (Y 1), .ref 88]) (pc' := 20) hk (.bipush 6) 2 rfl rfl rfl ?_
  refine ev_op (st' := [.int ((Y 1) + 6), .ref 88]) (pc' := 21) hk (.iadd) 1 rfl rfl rfl ?_
  refine ev_op (st' := [.int 1, .int ((Y 1) + 6), .ref 88]) (pc' := 22) hk (.iconst 1) 1 rfl rfl rfl ?_
  refine ev_op (st' := [.int (((Y 1) + 6) - 1), .ref 88]) (pc' := 23) hk (.isub) 1 rfl rfl rfl ?_
  refine ev_op (st' := [.int 6, .int (((Y 1) + 6) - 1), .ref 88]) (pc' := 25) hk (.bipush 6) 2 rfl rfl rfl ?_
  refine ev_rem 26 hk rfl (by decide) rfl ?_
  obtain ⟨Y7, hY7, hx⟩ := bnd_some hx
  have hY7 := Option.some.inj hY7
  refine ev_pf 29 hk rfl rfl lk_hist rfl rfl rfl (sf_2_1 hY7) rfl ?_
  refine ev_ls (L' := [some (.ref 88), some (.ref g)]) (st' := [.ref 88]) (pc' := 30) hk (.aload_n 0) 1 rfl rfl rfl rfl ?_
  refine ev_op (st' := [.ref 88, .ref 88]) (pc' := 31) hk (.dup) 1 rfl rfl rfl ?_
  refine ev_gf (.int (Y7 0)) 34 hk rfl rfl lk_hist rfl rfl ?_
  refine ev_op (st' := [.int 1, .int (Y7 0), .ref 88]) (pc' := 35) hk (.iconst 1) 1 rfl rfl rfl ?_
  refine ev_op (st' := [.int ((Y7 0) - 1), .ref 88]) (pc' := 36) hk (.isub) 1 rfl rfl rfl ?_
  obtain ⟨Y8, hY8, hx⟩ := bnd_some hx
  have hY8 := Option.some.inj hY8
  refine ev_pf 39 hk rfl rfl lk_hist rfl rfl rfl (sf_2_0 hY8) rfl ?_
  cases hx
  obtain rfl := hM
  exact ev_retv hk rfl rfl
set_option maxRecDepth 2000 in
theorem rX_undo {S : Nat} {xs : Nat → Int32} {I : zI} {C : zC} {Y : Nat → Int32} {Γ : Nat → zG} {D : zD} {O : Nat → Int32} {M : zM} {ou : Nat → Int64} {od : Nat → UInt64} {j : Nat}  {X : (Int32 ⊕ String) × (Nat → Int32) × (Nat → zG)}   (hx : fX_undo Y Γ = some X) : Ev S xs 364 0 [some (.ref 0)] [] (zH I C Y Γ D O M ou od j) (Sum.elim (fun v => ((.inl (some (.int v))), (zH I C X.2.1 X.2.2 D O M ou od j))) (fun E => (.inr E, (zH I C X.2.1 X.2.2 D O M ou od (j + 1)))) X.1 : (Option Value ⊕ String) × px_H) := by
  generalize hM : (Sum.elim (fun v => ((.inl (some (.int v))), (zH I C X.2.1 X.2.2 D O M ou od j))) (fun E => (.inr E, (zH I C X.2.1 X.2.2 D O M ou od (j + 1)))) X.1 : (Option Value ⊕ String) × px_H) = y
  replace hM := hM.symm
  have hk : pt_mt[364]? = some pt_r364 := rfl
  unfold fX_undo at hx
  refine ev_ls (L' := [some (.ref 0)]) (st' := [.ref 0]) (pc' := 1) hk (.aload_n 0) 1 rfl rfl rfl rfl ?_
  refine ev_gf (.ref 88) 4 hk rfl rfl lk_dh rfl rfl ?_
  refine ev_gf (.int (Y 0)) 7 hk rfl rfl lk_hist rfl rfl ?_
  refine ev_d1 21 10 hk rfl rfl rfl rfl (px_cne hx (fun hc hx => ?_) (fun hc hx => ?_))
  · refine ev_ls (L' := [some (.ref 0)]) (st' := [.ref 0]) (pc' := 22) hk (.aload_n 0) 1 rfl rfl rfl rfl ?_
    refine ev_gf (.ref 88) 25 hk rfl rfl lk_dh rfl rfl ?_
    refine ev_ls (L' := [some (.ref 0)]) (st' := [.ref 0, .ref 88]) (pc' := 26) hk (.aload_n 0) 1 rfl rfl rfl rfl ?_
    refine ev_gf (.ref 10) 29 hk rfl rfl lk_dh rfl rfl ?_
    obtain ⟨Y1, Γ2, hc3, hx⟩ := bnd2_some hx
    refine ev_cv 260 1 [] 32 hk rfl rfl rfl rfl lk_hist rfl rfl rfl (rY_recall isG_10 (by decide) hc3) rfl rfl rfl rfl ?_
    refine ev_ls (L' := [some (.ref 0)]) (st' := [.ref 0]) (pc' := 33) hk (.aload_n 0) 1 rfl rfl rfl rfl ?_
    refine ev_gf (.ref 88) 36 hk rfl rfl lk_dh rfl rfl ?_
    refine ev_gf (.int (Y1 0)) 39 hk rfl rfl lk_hist rfl rfl ?_
    cases hx
    obtain rfl := hM
    exact ev_retI hk rfl rfl
  · cases hx
    obtain rfl := hM
    exact ev_tw hk rfl (by rfl) rfl zH_j
set_option maxRecDepth 2000 in
theorem rw_undo {S : Nat} {xs : Nat → Int32} {I : zI} {C : zC} {Y : Nat → Int32} {Γ : Nat → zG} {D : zD} {O : Nat → Int32} {M : zM} {ou : Nat → Int64} {od : Nat → UInt64} {j : Nat}  {X : Int32 × (Nat → Int32) × (Nat → zG) × (Nat → Int64) × Nat}   (hx : fw_undo Y Γ ou j = some X) : Ev S xs 409 0 [some (.ref 0), some (.ref 261), none] [] (zH I C Y Γ D O M ou od j) (((.inl (some (.int X.1))), (zH I C X.2.1 X.2.2.1 D O M X.2.2.2.1 od X.2.2.2.2)) : (Option Value ⊕ String) × px_H) := by
  generalize hM : (((.inl (some (.int X.1))), (zH I C X.2.1 X.2.2.1 D O M X.2.2.2.1 od X.2.2.2.2)) : (Option Value ⊕ String) × px_H) = y
  replace hM := hM.symm
  have hk : pt_mt[409]? = some pt_r409 := rfl
  unfold fw_undo at hx
  refine ev_ls (L' := [some (.ref 0), some (.ref 261), none]) (st' := [.ref 261]) (pc' := 1) hk (.aload_n 1) 1 rfl rfl rfl rfl ?_
  refine ev_op (st' := [.int 0, .ref 261]) (pc' := 2) hk (.iconst 0) 1 rfl rfl rfl ?_
  refine ev_ls (L' := [some (.ref 0), some (.ref 261), none]) (st' := [.ref 0, .int 0, .ref 261]) (pc' := 3) hk (.aload_n 0) 1 rfl rfl rfl rfl ?_
  obtain ⟨r8, Y2, Γ3, hc4, hx⟩ := bnd3_some hx
  rcases r8 with v6 | E5
  · simp only [Sum.elim_inl] at hx
    refine ev_cv 364 0 [.int v6, .int 0, .ref 261] 6 hk rfl rfl rfl rfl lk_dh rfl rfl rfl (rX_undo hc4) rfl rfl rfl rfl ?_
    refine ev_op (st' := [.long (Int32.toInt64 v6), .int 0, .ref 261]) (pc' := 7) hk (.i2l) 1 rfl rfl rfl ?_
    obtain ⟨ou7, hou7, hx⟩ := bnd_some hx
    have hou7 := Option.some.inj hou7
    refine ev_las (A := (vp_updL ou 0 (Int32.toInt64 v6))) rfl 8 hk rfl lk_ou (sa_ou hou7) rfl ?_
    refine ev_jp (pc' := 14) (st' := []) hk (.goto 6) 3 rfl rfl rfl rfl rfl ?_
    refine ev_op (st' := [.int 0]) (pc' := 15) hk (.iconst 0) 1 rfl rfl rfl ?_
    cases hx
    obtain rfl := hM
    exact ev_retI hk rfl rfl
  · simp only [Sum.elim_inr] at hx
    rcases ite_or hx with ⟨hE, hx⟩ | ⟨hE, hx⟩
    · subst hE
      refine ev_cvC 364 0 12 hk rfl rfl rfl rfl lk_dh rfl rfl rfl (t := 11) (by decide +kernel) (L' := [some (.ref 0), some (.ref 261), none]) rfl (rX_undo hc4) rfl rfl ?_
      refine ev_op (st' := [.int 1]) (pc' := 13) hk (.iconst 1) 1 rfl rfl rfl ?_
      cases hx
      obtain rfl := hM
      exact ev_retI hk rfl rfl
    cases hx
set_option maxRecDepth 4000 in
theorem rM_undo_j13 {S : Nat} {xs : Nat → Int32} {I : zI} {C : zC} {Y : Nat → Int32} {Γ : Nat → zG} {D : zD} {O : Nat → Int32} {M : zM} {ou : Nat → Int64} {od : Nat → UInt64} {j : Nat} {a0t : Bool} {y : (Option Value ⊕ String) × px_H} {x : Int32 × zM}  (hx : fM_undo_j13 M a0t = some x) (hM : (fun X : Int32 × zM => y = (((.inl (some (.int X.1))), (zH I C Y Γ D O X.2 ou od j)) : (Option Value ⊕ String) × px_H)) x)  : Ev S xs 190 13 [some (.ref 247)] [.int (b2i a0t), .ref 247] (zH I C Y Γ D O M ou od j) y := by
  have hk : pt_mt[190]? = some pt_r190 := rfl
  unfold fM_undo_j13 at hx
  obtain ⟨v4, M3, hc5, hx⟩ := bnd2_some hx
  refine ev_cv 59 1 [.int (b2i v4)] 16 hk rfl rfl rfl rfl lk_model rfl rfl rfl (rM_goes hc5) rfl rfl rfl rfl ?_
  refine ev_d1 21 19 hk rfl rfl rfl rfl (px_bne hx (fun hc hx => ?_) (fun hc hx => ?_))
  · refine ev_ls (L' := [some (.ref 247)]) (st' := [.ref 247]) (pc' := 22) hk (.aload_n 0) 1 rfl rfl rfl rfl ?_
    refine ev_op (st' := [.ref 247, .ref 247]) (pc' := 23) hk (.dup) 1 rfl rfl rfl ?_
    refine ev_gf (.int (mF M3 18)) 26 hk rfl rfl lk_model rfl rfl ?_
    refine ev_op (st' := [.int 1, .int (mF M3 18), .ref 247]) (pc' := 27) hk (.iconst 1) 1 rfl rfl rfl ?_
    refine ev_op (st' := [.int ((mF M3 18) - 1), .ref 247]) (pc' := 28) hk (.isub) 1 rfl rfl rfl ?_
    obtain ⟨M6, hM6, hx⟩ := bnd_some hx
    have hM6 := Option.some.inj hM6
    refine ev_pf 31 hk rfl rfl lk_model rfl rfl rfl (sf_8_18 hM6) rfl ?_
    refine ev_ls (L' := [some (.ref 247)]) (st' := [.ref 247]) (pc' := 32) hk (.aload_n 0) 1 rfl rfl rfl rfl ?_
    refine ev_gf (.ref 253) 35 hk rfl rfl lk_model rfl rfl ?_
    refine ev_op (st' := [.int 160, .ref 253]) (pc' := 38) hk (.sipush 160) 3 rfl rfl rfl ?_
    refine ev_ls (L' := [some (.ref 247)]) (st' := [.ref 247, .int 160, .ref 253]) (pc' := 39) hk (.aload_n 0) 1 rfl rfl rfl rfl ?_
    refine ev_gf (.int (mF M6 18)) 42 hk rfl rfl lk_model rfl rfl ?_
    refine ev_op (st' := [.int (160 * (mF M6 18)), .ref 253]) (pc' := 43) hk (.imul) 1 rfl rfl rfl ?_
    refine ev_ls (L' := [some (.ref 247)]) (st' := [.ref 247, .int (160 * (mF M6 18)), .ref 253]) (pc' := 44) hk (.aload_n 0) 1 rfl rfl rfl rfl ?_
    refine ev_gf (.ref 249) 47 hk rfl rfl lk_model rfl rfl ?_
    refine ev_op (st' := [.int 0, .ref 249, .int (160 * (mF M6 18)), .ref 253]) (pc' := 48) hk (.iconst 0) 1 rfl rfl rfl ?_
    obtain ⟨M7, hc8, hx⟩ := bnd_some hx
    refine ev_cs 37 4 [] 51 hk rfl rfl (by decide) rfl rfl rfl (rM_copiesRow (ma_253) (ma_249) hc8) rfl rfl rfl rfl ?_
    refine ev_ls (L' := [some (.ref 247)]) (st' := [.ref 247]) (pc' := 52) hk (.aload_n 0) 1 rfl rfl rfl rfl ?_
    refine ev_gf (.int (mF M7 18)) 55 hk rfl rfl lk_model rfl rfl ?_
    cases hx
    obtain rfl := hM
    exact ev_retI hk rfl rfl
  · refine ev_op (st' := [.int 0]) (pc' := 20) hk (.iconst 0) 1 rfl rfl rfl ?_
    cases hx
    obtain rfl := hM
    exact ev_retI hk rfl rfl
set_option maxRecDepth 2000 in
theorem rM_undo {S : Nat} {xs : Nat → Int32} {I : zI} {C : zC} {Y : Nat → Int32} {Γ : Nat → zG} {D : zD} {O : Nat → Int32} {M : zM} {ou : Nat → Int64} {od : Nat → UInt64} {j : Nat}  {X : Int32 × zM}   (hx : fM_undo M = some X) : Ev S xs 190 0 [some (.ref 247)] [] (zH I C Y Γ D O M ou od j) (((.inl (some (.int X.1))), (zH I C Y Γ D O X.2 ou od j)) : (Option Value ⊕ String) × px_H) := by
  generalize hM : (((.inl (some (.int X.1))), (zH I C Y Γ D O X.2 ou od j)) : (Option Value ⊕ String) × px_H) = y
  replace hM := hM.symm
  have hk : pt_mt[190]? = some pt_r190 := rfl
  unfold fM_undo at hx
  refine ev_ls (L' := [some (.ref 247)]) (st' := [.ref 247]) (pc' := 1) hk (.aload_n 0) 1 rfl rfl rfl rfl ?_
  refine ev_ls (L' := [some (.ref 247)]) (st' := [.ref 247, .ref 247]) (pc' := 2) hk (.aload_n 0) 1 rfl rfl rfl rfl ?_
  refine ev_gf (.int (mF M 18)) 5 hk rfl rfl lk_model rfl rfl ?_
  refine ev_d1 12 8 hk rfl rfl rfl rfl (px_cle hx (fun hc hx => ?_) (fun hc hx => ?_))
  · refine ev_op (st' := [.int 0, .ref 247]) (pc' := 13) hk (.iconst 0) 1 rfl rfl rfl ?_
    exact rM_undo_j13 hx hM 
  · refine ev_op (st' := [.int 1, .ref 247]) (pc' := 9) hk (.iconst 1) 1 rfl rfl rfl ?_
    refine ev_jp (pc' := 13) (st' := [.int 1, .ref 247]) hk (.goto 4) 3 rfl rfl rfl rfl rfl ?_
    exact rM_undo_j13 hx hM 

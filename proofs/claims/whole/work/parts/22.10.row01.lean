/-! THE ROWS of the methods: each function is what the pure machine does (1) -/
set_option maxRecDepth 2000 in
theorem rG_passRefusal {S : Nat} {xs : Nat → Int32} {I : zI} {C : zC} {Y : Nat → Int32} {Γ : Nat → zG} {D : zD} {O : Nat → Int32} {M : zM} {ou : Nat → Int64} {od : Nat → UInt64} {j : Nat} {a0 : Int32} {X : Int32}   (hx : fG_passRefusal a0 = X) : Ev S xs 242 0 [some (.int a0)] [] (zH I C Y Γ D O M ou od j) (((.inl (some (.int X))), (zH I C Y Γ D O M ou od j)) : (Option Value ⊕ String) × px_H) := by
  generalize hM : (((.inl (some (.int X))), (zH I C Y Γ D O M ou od j)) : (Option Value ⊕ String) × px_H) = y
  replace hM := hM.symm
  have hk : pt_mt[242]? = some pt_r242 := rfl
  unfold fG_passRefusal at hx
  refine ev_ls (L' := [some (.int a0)]) (st' := [.int a0]) (pc' := 1) hk (.iload_n 0) 1 rfl rfl rfl rfl ?_
  refine ev_op (st' := [.int 1, .int a0]) (pc' := 2) hk (.iconst 1) 1 rfl rfl rfl ?_
  refine ev_d2 12 5 hk rfl rfl rfl rfl (px_clt hx (fun hc hx => ?_) (fun hc hx => ?_))
  · refine ev_op (st' := [.int 2]) (pc' := 13) hk (.iconst 2) 1 rfl rfl rfl ?_
    refine ev_jp (pc' := 17) (st' := [.int 2]) hk (.goto 4) 3 rfl rfl rfl rfl rfl ?_
    cases hx
    obtain rfl := hM
    exact ev_retI hk rfl rfl
  · refine ev_ls (L' := [some (.int a0)]) (st' := [.int a0]) (pc' := 6) hk (.iload_n 0) 1 rfl rfl rfl rfl ?_
    refine ev_op (st' := [.int 240, .int a0]) (pc' := 9) hk (.sipush 240) 3 rfl rfl rfl ?_
    refine ev_d2 16 12 hk rfl rfl rfl rfl (px_cle hx (fun hc hx => ?_) (fun hc hx => ?_))
    · refine ev_op (st' := [.int 0]) (pc' := 17) hk (.iconst 0) 1 rfl rfl rfl ?_
      cases hx
      obtain rfl := hM
      exact ev_retI hk rfl rfl
    · refine ev_op (st' := [.int 2]) (pc' := 13) hk (.iconst 2) 1 rfl rfl rfl ?_
      refine ev_jp (pc' := 17) (st' := [.int 2]) hk (.goto 4) 3 rfl rfl rfl rfl rfl ?_
      cases hx
      obtain rfl := hM
      exact ev_retI hk rfl rfl
set_option maxRecDepth 2000 in
theorem rX_refuse {S : Nat} {xs : Nat → Int32} {I : zI} {C : zC} {Y : Nat → Int32} {Γ : Nat → zG} {D : zD} {O : Nat → Int32} {M : zM} {ou : Nat → Int64} {od : Nat → UInt64} {j : Nat} {a0 : Int32} {X : (Unit ⊕ String)}   (hx : fX_refuse a0 = some X) : Ev S xs 350 0 [some (.int a0)] [] (zH I C Y Γ D O M ou od j) (Sum.elim (fun v => ((.inl none), (zH I C Y Γ D O M ou od j))) (fun E => (.inr E, (zH I C Y Γ D O M ou od (j + 1)))) X : (Option Value ⊕ String) × px_H) := by
  generalize hM : (Sum.elim (fun v => ((.inl none), (zH I C Y Γ D O M ou od j))) (fun E => (.inr E, (zH I C Y Γ D O M ou od (j + 1)))) X : (Option Value ⊕ String) × px_H) = y
  replace hM := hM.symm
  have hk : pt_mt[350]? = some pt_r350 := rfl
  unfold fX_refuse at hx
  refine ev_ls (L' := [some (.int a0)]) (st' := [.int a0]) (pc' := 1) hk (.iload_n 0) 1 rfl rfl rfl rfl ?_
  refine ev_op (st' := [.int 1, .int a0]) (pc' := 2) hk (.iconst 1) 1 rfl rfl rfl ?_
  refine ev_d2 16 5 hk rfl rfl rfl rfl (px_cne hx (fun hc hx => ?_) (fun hc hx => ?_))
  · refine ev_ls (L' := [some (.int a0)]) (st' := [.int a0]) (pc' := 17) hk (.iload_n 0) 1 rfl rfl rfl rfl ?_
    refine ev_op (st' := [.int 2, .int a0]) (pc' := 18) hk (.iconst 2) 1 rfl rfl rfl ?_
    refine ev_d2 32 21 hk rfl rfl rfl rfl (px_cne hx (fun hc hx => ?_) (fun hc hx => ?_))
    · refine ev_ls (L' := [some (.int a0)]) (st' := [.int a0]) (pc' := 33) hk (.iload_n 0) 1 rfl rfl rfl rfl ?_
      refine ev_op (st' := [.int 3, .int a0]) (pc' := 34) hk (.iconst 3) 1 rfl rfl rfl ?_
      refine ev_d2 48 37 hk rfl rfl rfl rfl (px_cne hx (fun hc hx => ?_) (fun hc hx => ?_))
      · cases hx
        obtain rfl := hM
        exact ev_retv hk rfl rfl
      · cases hx
        obtain rfl := hM
        exact ev_tw hk rfl (by rfl) rfl zH_j
    · cases hx
      obtain rfl := hM
      exact ev_tw hk rfl (by rfl) rfl zH_j
  · cases hx
    obtain rfl := hM
    exact ev_tw hk rfl (by rfl) rfl zH_j
set_option maxRecDepth 2000 in
theorem rJ_min_7cf53 {S : Nat} {xs : Nat → Int32} {I : zI} {C : zC} {Y : Nat → Int32} {Γ : Nat → zG} {D : zD} {O : Nat → Int32} {M : zM} {ou : Nat → Int64} {od : Nat → UInt64} {j : Nat} {a0 : Int32} {a1 : Int32} {X : Int32}   (hx : fJ_min_7cf53 a0 a1 = X) : Ev S xs 4 0 [some (.int a0), some (.int a1)] [] (zH I C Y Γ D O M ou od j) (((.inl (some (.int X))), (zH I C Y Γ D O M ou od j)) : (Option Value ⊕ String) × px_H) := by
  generalize hM : (((.inl (some (.int X))), (zH I C Y Γ D O M ou od j)) : (Option Value ⊕ String) × px_H) = y
  replace hM := hM.symm
  have hk : pt_mt[4]? = some pt_r4 := rfl
  unfold fJ_min_7cf53 at hx
  refine ev_ls (L' := [some (.int a0), some (.int a1)]) (st' := [.int a0]) (pc' := 1) hk (.iload_n 0) 1 rfl rfl rfl rfl ?_
  refine ev_ls (L' := [some (.int a0), some (.int a1)]) (st' := [.int a1, .int a0]) (pc' := 2) hk (.iload_n 1) 1 rfl rfl rfl rfl ?_
  refine ev_d2 9 5 hk rfl rfl rfl rfl (px_cgt hx (fun hc hx => ?_) (fun hc hx => ?_))
  · refine ev_ls (L' := [some (.int a0), some (.int a1)]) (st' := [.int a1]) (pc' := 10) hk (.iload_n 1) 1 rfl rfl rfl rfl ?_
    cases hx
    obtain rfl := hM
    exact ev_retI hk rfl rfl
  · refine ev_ls (L' := [some (.int a0), some (.int a1)]) (st' := [.int a0]) (pc' := 6) hk (.iload_n 0) 1 rfl rfl rfl rfl ?_
    refine ev_jp (pc' := 10) (st' := [.int a0]) hk (.goto 4) 3 rfl rfl rfl rfl rfl ?_
    cases hx
    obtain rfl := hM
    exact ev_retI hk rfl rfl
set_option maxRecDepth 2000 in
theorem rY_remember {S : Nat} {xs : Nat → Int32} {I : zI} {C : zC} {Y : Nat → Int32} {Γ : Nat → zG} {D : zD} {O : Nat → Int32} {M : zM} {ou : Nat → Int64} {od : Nat → UInt64} {j : Nat} {g : Nat}  {X : (Nat → Int32) × (Nat → zG)}  (hg : isG g) (hlo : g < 88) (hx : fY_remember Y Γ g = some X) : Ev S xs 261 0 [some (.ref 88), some (.ref g)] [] (zH I C Y Γ D O M ou od j) (((.inl none), (zH I C X.1 X.2 D O M ou od j)) : (Option Value ⊕ String) × px_H) := by
  generalize hM : (((.inl none), (zH I C X.1 X.2 D O M ou od j)) : (Option Value ⊕ String) × px_H) = y
  replace hM := hM.symm
  have hk : pt_mt[261]? = some pt_r261 := rfl
  unfold fY_remember at hx
  refine ev_ls (L' := [some (.ref 88), some (.ref g)]) (st' := [.ref 88]) (pc' := 1) hk (.aload_n 0) 1 rfl rfl rfl rfl ?_
  refine ev_ls (L' := [some (.ref 88), some (.ref g)]) (st' := [.ref 88, .ref 88]) (pc' := 2) hk (.aload_n 0) 1 rfl rfl rfl rfl ?_
  refine ev_gf (.int (Y 1)) 5 hk rfl rfl lk_hist rfl rfl ?_
  refine ev_op (st' := [.int 1, .int (Y 1), .ref 88]) (pc' := 6) hk (.iconst 1) 1 rfl rfl rfl ?_
  refine ev_op (st' := [.int ((Y 1) + 1), .ref 88]) (pc' := 7) hk (.iadd) 1 rfl rfl rfl ?_
  refine ev_op (st' := [.int 6, .int ((Y 1) + 1), .ref 88]) (pc' := 9) hk (.bipush 6) 2 rfl rfl rfl ?_
  refine ev_rem 10 hk rfl (by decide) rfl ?_
  obtain ⟨Y4, hY4, hx⟩ := bnd_some hx
  have hY4 := Option.some.inj hY4
  refine ev_pf 13 hk rfl rfl lk_hist rfl rfl rfl (sf_2_1 hY4) rfl ?_
  refine ev_ls (L' := [some (.ref 88), some (.ref g)]) (st' := [.ref 88]) (pc' := 14) hk (.aload_n 0) 1 rfl rfl rfl rfl ?_
  refine ev_gf (.ref 89) 17 hk rfl rfl lk_hist rfl rfl ?_
  refine ev_ls (L' := [some (.ref 88), some (.ref g)]) (st' := [.ref 88, .ref 89]) (pc' := 18) hk (.aload_n 0) 1 rfl rfl rfl rfl ?_
  refine ev_gf (.int (Y4 1)) 21 hk rfl rfl lk_hist rfl rfl ?_
  obtain ⟨p5, hp5, hx⟩ := bnd_some hx
  have hpp5 := rix_lt hp5
  refine ev_aal (90 + 26 * p5) hp5 22 hk rfl lk_before (by decide) (lk_be hpp5) rfl ?_
  refine ev_ls (L' := [some (.ref 88), some (.ref g)]) (st' := [.ref g, .ref (90 + 26 * p5)]) (pc' := 23) hk (.aload_n 1) 1 rfl rfl rfl rfl ?_
  obtain ⟨G6, hc7, hx⟩ := bnd_some hx
  refine ev_cv 217 1 [] 26 hk rfl rfl rfl rfl (lk_globe (isG_h hpp5) rfl) rfl rfl rfl (ev_gs (rG_copyFrom (isG_h hpp5) hg (ne_lo_h hlo) rfl hc7)) rfl rfl rfl rfl ?_
  refine ev_ls (L' := [some (.ref 88), some (.ref g)]) (st' := [.ref 88]) (pc' := 27) hk (.aload_n 0) 1 rfl rfl rfl rfl ?_
  refine ev_ls (L' := [some (.ref 88), some (.ref g)]) (st' := [.ref 88, .ref 88]) (pc' := 28) hk (.aload_n 0) 1 rfl rfl rfl rfl ?_
  refine ev_gf (.int (Y4 0)) 31 hk rfl rfl lk_hist rfl rfl ?_
  refine ev_op (st' := [.int 1, .int (Y4 0), .ref 88]) (pc' := 32) hk (.iconst 1) 1 rfl rfl rfl ?_
  refine ev_op (st' := [.int ((Y4 0) + 1), .ref 88]) (pc' := 33) hk (.iadd) 1 rfl rfl rfl ?_
  refine ev_op (st' := [.int 6, .int ((Y4 0) + 1), .ref 88]) (pc' := 35) hk (.bipush 6) 2 rfl rfl rfl ?_
  refine ev_cs 4 2 [.int (fJ_min_7cf53 ((Y4 0) + 1) 6), .ref 88] 38 hk rfl rfl (by decide) rfl rfl rfl (rJ_min_7cf53 rfl) rfl rfl rfl rfl ?_
  obtain ⟨Y8, hY8, hx⟩ := bnd_some hx
  have hY8 := Option.some.inj hY8
  refine ev_pf 41 hk rfl rfl lk_hist rfl rfl rfl (sf_2_0 hY8) rfl ?_
  cases hx
  obtain rfl := hM
  exact ev_retv hk rfl rfl
set_option maxRecDepth 2000 in
theorem rG_longitudeIn {S : Nat} {xs : Nat → Int32} {I : zI} {C : zC} {Y : Nat → Int32} {Γ : Nat → zG} {D : zD} {O : Nat → Int32} {M : zM} {ou : Nat → Int64} {od : Nat → UInt64} {j : Nat} {g : Nat} {G : zG} {a1 : Int32} {a2 : Int32} {X : Int32}  (hg : isG g) (hx : fG_longitudeIn G a1 a2 = some X) : Ev S xs 238 0 [some (.ref g), some (.int a1), some (.int a2)] [] (zH I C Y (gup Γ g G) D O M ou od j) (((.inl (some (.int X))), (zH I C Y (gup Γ g G) D O M ou od j)) : (Option Value ⊕ String) × px_H) := by
  generalize hM : (((.inl (some (.int X))), (zH I C Y (gup Γ g G) D O M ou od j)) : (Option Value ⊕ String) × px_H) = y
  replace hM := hM.symm
  have hk : pt_mt[238]? = some pt_r238 := rfl
  unfold fG_longitudeIn at hx
  refine ev_ls (L' := [some (.ref g), some (.int a1), some (.int a2)]) (st' := [.int a2]) (pc' := 1) hk (.iload_n 2) 1 rfl rfl rfl rfl ?_
  refine ev_ls (L' := [some (.ref g), some (.int a1), some (.int a2)]) (st' := [.ref g, .int a2]) (pc' := 2) hk (.aload_n 0) 1 rfl rfl rfl rfl ?_
  refine ev_gf (.ref (g + 5)) 5 hk rfl rfl (lk_globe hg gup_same) rfl rfl ?_
  refine ev_ls (L' := [some (.ref g), some (.int a1), some (.int a2)]) (st' := [.int a1, .ref (g + 5), .int a2]) (pc' := 6) hk (.iload_n 1) 1 rfl rfl rfl rfl ?_
  obtain ⟨v2, hv2, hx⟩ := bnd_some hx
  refine ev_ial hv2 7 hk rfl (lk_a5 hg gup_same) rfl ?_
  refine ev_d2 14 10 hk rfl rfl rfl rfl (px_cge hx (fun hc hx => ?_) (fun hc hx => ?_))
  · refine ev_ls (L' := [some (.ref g), some (.int a1), some (.int a2)]) (st' := [.int a2]) (pc' := 15) hk (.iload_n 2) 1 rfl rfl rfl rfl ?_
    refine ev_op (st' := [.int 360, .int a2]) (pc' := 18) hk (.sipush 360) 3 rfl rfl rfl ?_
    refine ev_op (st' := [.int (a2 - 360)]) (pc' := 19) hk (.isub) 1 rfl rfl rfl ?_
    cases hx
    obtain rfl := hM
    exact ev_retI hk rfl rfl
  · refine ev_ls (L' := [some (.ref g), some (.int a1), some (.int a2)]) (st' := [.int a2]) (pc' := 11) hk (.iload_n 2) 1 rfl rfl rfl rfl ?_
    refine ev_jp (pc' := 19) (st' := [.int a2]) hk (.goto 8) 3 rfl rfl rfl rfl rfl ?_
    cases hx
    obtain rfl := hM
    exact ev_retI hk rfl rfl
set_option maxRecDepth 2000 in
theorem rJ_floorDiv_7cf53 {S : Nat} {xs : Nat → Int32} {I : zI} {C : zC} {Y : Nat → Int32} {Γ : Nat → zG} {D : zD} {O : Nat → Int32} {M : zM} {ou : Nat → Int64} {od : Nat → UInt64} {j : Nat} {a0 : Int32} {a1 : Int32} {X : Int32}   (hx : fJ_floorDiv_7cf53 a0 a1 = some X) : Ev S xs 1 0 [some (.int a0), some (.int a1), none] [] (zH I C Y Γ D O M ou od j) (((.inl (some (.int X))), (zH I C Y Γ D O M ou od j)) : (Option Value ⊕ String) × px_H) := by
  generalize hM : (((.inl (some (.int X))), (zH I C Y Γ D O M ou od j)) : (Option Value ⊕ String) × px_H) = y
  replace hM := hM.symm
  have hk : pt_mt[1]? = some pt_r1 := rfl
  unfold fJ_floorDiv_7cf53 at hx
  refine ev_ls (L' := [some (.int a0), some (.int a1), none]) (st' := [.int a0]) (pc' := 1) hk (.iload_n 0) 1 rfl rfl rfl rfl ?_
  refine ev_ls (L' := [some (.int a0), some (.int a1), none]) (st' := [.int a1, .int a0]) (pc' := 2) hk (.iload_n 1) 1 rfl rfl rfl rfl ?_
  obtain ⟨v2, hv2, hx⟩ := bnd_some hx
  refine ev_dv 3 hk rfl hv2 rfl ?_
  refine ev_ls (L' := [some (.int a0), some (.int a1), some (.int v2)]) (st' := []) (pc' := 4) hk (.istore_n 2) 1 rfl rfl rfl rfl ?_
  refine ev_ls (L' := [some (.int a0), some (.int a1), some (.int v2)]) (st' := [.int a0]) (pc' := 5) hk (.iload_n 0) 1 rfl rfl rfl rfl ?_
  refine ev_ls (L' := [some (.int a0), some (.int a1), some (.int v2)]) (st' := [.int a1, .int a0]) (pc' := 6) hk (.iload_n 1) 1 rfl rfl rfl rfl ?_
  refine ev_op (st' := [.int (a0 ^^^ a1)]) (pc' := 7) hk (.ixor) 1 rfl rfl rfl ?_
  refine ev_d1 21 10 hk rfl rfl rfl rfl (px_cge hx (fun hc hx => ?_) (fun hc hx => ?_))
  · refine ev_ls (L' := [some (.int a0), some (.int a1), some (.int v2)]) (st' := [.int v2]) (pc' := 22) hk (.iload_n 2) 1 rfl rfl rfl rfl ?_
    cases hx
    obtain rfl := hM
    exact ev_retI hk rfl rfl
  · refine ev_ls (L' := [some (.int a0), some (.int a1), some (.int v2)]) (st' := [.int v2]) (pc' := 11) hk (.iload_n 2) 1 rfl rfl rfl rfl ?_
    refine ev_ls (L' := [some (.int a0), some (.int a1), some (.int v2)]) (st' := [.int a1, .int v2]) (pc' := 12) hk (.iload_n 1) 1 rfl rfl rfl rfl ?_
    refine ev_op (st' := [.int (v2 * a1)]) (pc' := 13) hk (.imul) 1 rfl rfl rfl ?_
    refine ev_ls (L' := [some (.int a0), some (.int a1), some (.int v2)]) (st' := [.int a0, .int (v2 * a1)]) (pc' := 14) hk (.iload_n 0) 1 rfl rfl rfl rfl ?_
    refine ev_d2 21 17 hk rfl rfl rfl rfl (px_ceq hx (fun hc hx => ?_) (fun hc hx => ?_))
    · refine ev_ls (L' := [some (.int a0), some (.int a1), some (.int v2)]) (st' := [.int v2]) (pc' := 22) hk (.iload_n 2) 1 rfl rfl rfl rfl ?_
      cases hx
      obtain rfl := hM
      exact ev_retI hk rfl rfl
    · refine ev_ls (L' := [some (.int a0), some (.int a1), some (.int v2)]) (st' := [.int v2]) (pc' := 18) hk (.iload_n 2) 1 rfl rfl rfl rfl ?_
      refine ev_op (st' := [.int 1, .int v2]) (pc' := 19) hk (.iconst 1) 1 rfl rfl rfl ?_
      refine ev_op (st' := [.int (v2 - 1)]) (pc' := 20) hk (.isub) 1 rfl rfl rfl ?_
      cases hx
      obtain rfl := hM
      exact ev_retI hk rfl rfl
set_option maxRecDepth 2000 in
theorem rG_localHours {S : Nat} {xs : Nat → Int32} {I : zI} {C : zC} {Y : Nat → Int32} {Γ : Nat → zG} {D : zD} {O : Nat → Int32} {M : zM} {ou : Nat → Int64} {od : Nat → UInt64} {j : Nat} {g : Nat} {G : zG} {a1 : Int32} {a2 : Int32} {X : Int32}  (hg : isG g) (hx : fG_localHours G a1 a2 = some X) : Ev S xs 237 0 [some (.ref g), some (.int a1), some (.int a2)] [] (zH I C Y (gup Γ g G) D O M ou od j) (((.inl (some (.int X))), (zH I C Y (gup Γ g G) D O M ou od j)) : (Option Value ⊕ String) × px_H) := by
  generalize hM : (((.inl (some (.int X))), (zH I C Y (gup Γ g G) D O M ou od j)) : (Option Value ⊕ String) × px_H) = y
  replace hM := hM.symm
  have hk : pt_mt[237]? = some pt_r237 := rfl
  unfold fG_localHours at hx
  refine ev_ls (L' := [some (.ref g), some (.int a1), some (.int a2)]) (st' := [.ref g]) (pc' := 1) hk (.aload_n 0) 1 rfl rfl rfl rfl ?_
  refine ev_gf (.int (gF G 0 2)) 4 hk rfl rfl (lk_globe hg gup_same) rfl rfl ?_
  refine ev_ls (L' := [some (.ref g), some (.int a1), some (.int a2)]) (st' := [.ref g, .int (gF G 0 2)]) (pc' := 5) hk (.aload_n 0) 1 rfl rfl rfl rfl ?_
  refine ev_ls (L' := [some (.ref g), some (.int a1), some (.int a2)]) (st' := [.int a1, .ref g, .int (gF G 0 2)]) (pc' := 6) hk (.iload_n 1) 1 rfl rfl rfl rfl ?_
  refine ev_ls (L' := [some (.ref g), some (.int a1), some (.int a2)]) (st' := [.int a2, .int a1, .ref g, .int (gF G 0 2)]) (pc' := 7) hk (.iload_n 2) 1 rfl rfl rfl rfl ?_
  obtain ⟨v1, hc2, hx⟩ := bnd_some hx
  refine ev_cv 238 2 [.int v1, .int (gF G 0 2)] 10 hk rfl rfl rfl rfl (lk_globe hg gup_same) rfl rfl rfl (rG_longitudeIn hg hc2) rfl rfl rfl rfl ?_
  refine ev_op (st' := [.int 15, .int v1, .int (gF G 0 2)]) (pc' := 12) hk (.bipush 15) 2 rfl rfl rfl ?_
  obtain ⟨v3, hc4, hx⟩ := bnd_some hx
  refine ev_cs 1 2 [.int v3, .int (gF G 0 2)] 15 hk rfl rfl (by decide) rfl rfl rfl (rJ_floorDiv_7cf53 hc4) rfl rfl rfl rfl ?_
  refine ev_op (st' := [.int ((gF G 0 2) + v3)]) (pc' := 16) hk (.iadd) 1 rfl rfl rfl ?_
  cases hx
  obtain rfl := hM
  exact ev_retI hk rfl rfl
set_option maxRecDepth 2000 in
theorem rJ_floorMod_7cf53 {S : Nat} {xs : Nat → Int32} {I : zI} {C : zC} {Y : Nat → Int32} {Γ : Nat → zG} {D : zD} {O : Nat → Int32} {M : zM} {ou : Nat → Int64} {od : Nat → UInt64} {j : Nat} {a0 : Int32} {a1 : Int32} {X : Int32}   (hx : fJ_floorMod_7cf53 a0 a1 = some X) : Ev S xs 2 0 [some (.int a0), some (.int a1), none] [] (zH I C Y Γ D O M ou od j) (((.inl (some (.int X))), (zH I C Y Γ D O M ou od j)) : (Option Value ⊕ String) × px_H) := by
  generalize hM : (((.inl (some (.int X))), (zH I C Y Γ D O M ou od j)) : (Option Value ⊕ String) × px_H) = y
  replace hM := hM.symm
  have hk : pt_mt[2]? = some pt_r2 := rfl
  unfold fJ_floorMod_7cf53 at hx
  refine ev_ls (L' := [some (.int a0), some (.int a1), none]) (st' := [.int a0]) (pc' := 1) hk (.iload_n 0) 1 rfl rfl rfl rfl ?_
  refine ev_ls (L' := [some (.int a0), some (.int a1), none]) (st' := [.int a1, .int a0]) (pc' := 2) hk (.iload_n 1) 1 rfl rfl rfl rfl ?_
  obtain ⟨v2, hv2, hx⟩ := bnd_some hx
  refine ev_rm 3 hk rfl hv2 rfl ?_
  refine ev_ls (L' := [some (.int a0), some (.int a1), some (.int v2)]) (st' := []) (pc' := 4) hk (.istore_n 2) 1 rfl rfl rfl rfl ?_
  refine ev_ls (L' := [some (.int a0), some (.int a1), some (.int v2)]) (st' := [.int a0]) (pc' := 5) hk (.iload_n 0) 1 rfl rfl rfl rfl ?_
  refine ev_ls (L' := [some (.int a0), some (.int a1), some (.int v2)]) (st' := [.int a1, .int a0]) (pc' := 6) hk (.iload_n 1) 1 rfl rfl rfl rfl ?_
  refine ev_op (st' := [.int (a0 ^^^ a1)]) (pc' := 7) hk (.ixor) 1 rfl rfl rfl ?_
  refine ev_d1 18 10 hk rfl rfl rfl rfl (px_cge hx (fun hc hx => ?_) (fun hc hx => ?_))
  · refine ev_ls (L' := [some (.int a0), some (.int a1), some (.int v2)]) (st' := [.int v2]) (pc' := 19) hk (.iload_n 2) 1 rfl rfl rfl rfl ?_
    cases hx
    obtain rfl := hM
    exact ev_retI hk rfl rfl
  · refine ev_ls (L' := [some (.int a0), some (.int a1), some (.int v2)]) (st' := [.int v2]) (pc' := 11) hk (.iload_n 2) 1 rfl rfl rfl rfl ?_
    refine ev_d1 18 14 hk rfl rfl rfl rfl (px_ceq hx (fun hc hx => ?_) (fun hc hx => ?_))
    · refine ev_ls (L' := [some (.int a0), some (.int a1), some (.int v2)]) (st' := [.int v2]) (pc' := 19) hk (.iload_n 2) 1 rfl rfl rfl rfl ?_
      cases hx
      obtain rfl := hM
      exact ev_retI hk rfl rfl
    · refine ev_ls (L' := [some (.int a0), some (.int a1), some (.int v2)]) (st' := [.int v2]) (pc' := 15) hk (.iload_n 2) 1 rfl rfl rfl rfl ?_
      refine ev_ls (L' := [some (.int a0), some (.int a1), some (.int v2)]) (st' := [.int a1, .int v2]) (pc' := 16) hk (.iload_n 1) 1 rfl rfl rfl rfl ?_
      refine ev_op (st' := [.int (v2 + a1)]) (pc' := 17) hk (.iadd) 1 rfl rfl rfl ?_
      cases hx
      obtain rfl := hM
      exact ev_retI hk rfl rfl
set_option maxRecDepth 2000 in
theorem rG_localHour {S : Nat} {xs : Nat → Int32} {I : zI} {C : zC} {Y : Nat → Int32} {Γ : Nat → zG} {D : zD} {O : Nat → Int32} {M : zM} {ou : Nat → Int64} {od : Nat → UInt64} {j : Nat} {g : Nat} {G : zG} {a1 : Int32} {a2 : Int32} {X : Int32}  (hg : isG g) (hx : fG_localHour G a1 a2 = some X) : Ev S xs 236 0 [some (.ref g), some (.int a1), some (.int a2)] [] (zH I C Y (gup Γ g G) D O M ou od j) (((.inl (some (.int X))), (zH I C Y (gup Γ g G) D O M ou od j)) : (Option Value ⊕ String) × px_H) := by
  generalize hM : (((.inl (some (.int X))), (zH I C Y (gup Γ g G) D O M ou od j)) : (Option Value ⊕ String) × px_H) = y
  replace hM := hM.symm
  have hk : pt_mt[236]? = some pt_r236 := rfl
  unfold fG_localHour at hx
  refine ev_ls (L' := [some (.ref g), some (.int a1), some (.int a2)]) (st' := [.ref g]) (pc' := 1) hk (.aload_n 0) 1 rfl rfl rfl rfl ?_
  refine ev_ls (L' := [some (.ref g), some (.int a1), some (.int a2)]) (st' := [.int a1, .ref g]) (pc' := 2) hk (.iload_n 1) 1 rfl rfl rfl rfl ?_
  refine ev_ls (L' := [some (.ref g), some (.int a1), some (.int a2)]) (st' := [.int a2, .int a1, .ref g]) (pc' := 3) hk (.iload_n 2) 1 rfl rfl rfl rfl ?_
  obtain ⟨v1, hc2, hx⟩ := bnd_some hx
  refine ev_cv 237 2 [.int v1] 6 hk rfl rfl rfl rfl (lk_globe hg gup_same) rfl rfl rfl (rG_localHours hg hc2) rfl rfl rfl rfl ?_
  refine ev_op (st' := [.int 24, .int v1]) (pc' := 8) hk (.bipush 24) 2 rfl rfl rfl ?_
  obtain ⟨v3, hc4, hx⟩ := bnd_some hx
  refine ev_cs 2 2 [.int v3] 11 hk rfl rfl (by decide) rfl rfl rfl (rJ_floorMod_7cf53 hc4) rfl rfl rfl rfl ?_
  cases hx
  obtain rfl := hM
  exact ev_retI hk rfl rfl
def qG_turnDiaries_2 (S : Nat) (xs : Nat → Int32) (I : zI) (C : zC) (Y : Nat → Int32) (Γ : Nat → zG) (D : zD) (O : Nat → Int32) (M : zM) (ou : Nat → Int64) (od : Nat → UInt64) (j : Nat) (g : Nat) (y : (Option Value ⊕ String) × px_H) (s : zG × Int32) : Prop := ∀ (u2 : Option Value) (hu2 : px_cz u2 = true), Ev S xs 254 2 [some (.ref g), some (.int s.2), u2] [] (zH I C Y (gup Γ g s.1) D O M ou od j) y
set_option maxRecDepth 4000 in
theorem rG_turnDiaries_b2 {S : Nat} {xs : Nat → Int32} {I : zI} {C : zC} {Y : Nat → Int32} {Γ : Nat → zG} {D : zD} {O : Nat → Int32} {M : zM} {ou : Nat → Int64} {od : Nat → UInt64} {j : Nat} {g : Nat}  {y : (Option Value ⊕ String) × px_H} {s : zG × Int32} {x : (zG × Int32) ⊕ (zG)} (hg : isG g) (hx : fG_turnDiaries_b2 s.1 s.2 = some x) (hM : (Sum.elim (qG_turnDiaries_2 S xs I C Y Γ D O M ou od j g y) (fun X : zG => y = (((.inl none), (zH I C Y (gup Γ g X) D O M ou od j)) : (Option Value ⊕ String) × px_H))) x) : qG_turnDiaries_2 S xs I C Y Γ D O M ou od j g y s := by
  obtain ⟨G, a1⟩ := s
  intro u2 hu2
  have hk : pt_mt[254]? = some pt_r254 := rfl
  unfold fG_turnDiaries_b2 at hx
  try dsimp only at hx
  refine ev_ls (L' := [some (.ref g), some (.int a1), u2]) (st' := [.int a1]) (pc' := 3) hk (.iload_n 1) 1 rfl rfl rfl rfl ?_
  refine ev_ls (L' := [some (.ref g), some (.int a1), u2]) (st' := [.ref g, .int a1]) (pc' := 4) hk (.aload_n 0) 1 rfl rfl rfl rfl ?_
  refine ev_gf (.int (gF G 0 4)) 7 hk rfl rfl (lk_globe hg gup_same) rfl rfl ?_
  refine ev_d2 55 10 hk rfl rfl rfl rfl (px_cge hx (fun hc hx => ?_) (fun hc hx => ?_))
  · cases hx
    obtain rfl := hM
    exact ev_retv hk rfl rfl
  · refine ev_ls (L' := [some (.ref g), some (.int a1), u2]) (st' := [.ref g]) (pc' := 11) hk (.aload_n 0) 1 rfl rfl rfl rfl ?_
    refine ev_gf (.ref (g + 6)) 14 hk rfl rfl (lk_globe hg gup_same) rfl rfl ?_
    refine ev_ls (L' := [some (.ref g), some (.int a1), u2]) (st' := [.int a1, .ref (g + 6)]) (pc' := 15) hk (.iload_n 1) 1 rfl rfl rfl rfl ?_
    obtain ⟨p5, hp5, hx⟩ := bnd_some hx
    have hpp5 := rix_lt hp5
    refine ev_aal (g + (7 + p5)) hp5 16 hk rfl (lk_spots hg gup_same) (by decide) (lk_sp hpp5) rfl ?_
    refine ev_ls (L' := [some (.ref g), some (.int a1), some (.ref (g + (7 + p5)))]) (st' := []) (pc' := 17) hk (.astore_n 2) 1 rfl rfl rfl rfl ?_
    refine ev_ls (L' := [some (.ref g), some (.int a1), some (.ref (g + (7 + p5)))]) (st' := [.ref (g + (7 + p5))]) (pc' := 18) hk (.aload_n 2) 1 rfl rfl rfl rfl ?_
    refine ev_gf (.int (b2i (gB G (7 + p5)))) 21 hk rfl rfl (lk_spot hg hpp5 gup_same) rfl rfl ?_
    refine ev_d1 49 24 hk rfl rfl rfl rfl (px_beq hx (fun hc hx => ?_) (fun hc hx => ?_))
    · refine ev_ls (L' := [some (.ref g), some (.int (a1 + 1)), some (.ref (g + (7 + p5)))]) (st' := []) (pc' := 52) hk (.iinc 1 1) 3 rfl rfl rfl rfl ?_
      refine ev_jp (pc' := 2) (st' := []) hk (.goto (-50)) 3 rfl rfl rfl rfl rfl ?_
      cases hx
      exact hM (some (.ref (g + (7 + p5)))) rfl
    · refine ev_ls (L' := [some (.ref g), some (.int a1), some (.ref (g + (7 + p5)))]) (st' := [.ref g]) (pc' := 25) hk (.aload_n 0) 1 rfl rfl rfl rfl ?_
      refine ev_ls (L' := [some (.ref g), some (.int a1), some (.ref (g + (7 + p5)))]) (st' := [.ref (g + (7 + p5)), .ref g]) (pc' := 26) hk (.aload_n 2) 1 rfl rfl rfl rfl ?_
      refine ev_gf (.int (gF G (7 + p5) 2)) 29 hk rfl rfl (lk_spot hg hpp5 gup_same) rfl rfl ?_
      refine ev_ls (L' := [some (.ref g), some (.int a1), some (.ref (g + (7 + p5)))]) (st' := [.ref (g + (7 + p5)), .int (gF G (7 + p5) 2), .ref g]) (pc' := 30) hk (.aload_n 2) 1 rfl rfl rfl rfl ?_
      refine ev_gf (.int (gF G (7 + p5) 3)) 33 hk rfl rfl (lk_spot hg hpp5 gup_same) rfl rfl ?_
      obtain ⟨v6, hc7, hx⟩ := bnd_some hx
      refine ev_cv 236 2 [.int v6] 36 hk rfl rfl rfl rfl (lk_globe hg gup_same) rfl rfl rfl (rG_localHour hg hc7) rfl rfl rfl rfl ?_
      refine ev_d1 49 39 hk rfl rfl rfl rfl (px_cne hx (fun hc hx => ?_) (fun hc hx => ?_))
      · refine ev_ls (L' := [some (.ref g), some (.int (a1 + 1)), some (.ref (g + (7 + p5)))]) (st' := []) (pc' := 52) hk (.iinc 1 1) 3 rfl rfl rfl rfl ?_
        refine ev_jp (pc' := 2) (st' := []) hk (.goto (-50)) 3 rfl rfl rfl rfl rfl ?_
        cases hx
        exact hM (some (.ref (g + (7 + p5)))) rfl
      · refine ev_ls (L' := [some (.ref g), some (.int a1), some (.ref (g + (7 + p5)))]) (st' := [.ref (g + (7 + p5))]) (pc' := 40) hk (.aload_n 2) 1 rfl rfl rfl rfl ?_
        refine ev_op (st' := [.ref (g + (7 + p5)), .ref (g + (7 + p5))]) (pc' := 41) hk (.dup) 1 rfl rfl rfl ?_
        refine ev_gf (.int (gF G (7 + p5) 4)) 44 hk rfl rfl (lk_spot hg hpp5 gup_same) rfl rfl ?_
        refine ev_op (st' := [.int 1, .int (gF G (7 + p5) 4), .ref (g + (7 + p5))]) (pc' := 45) hk (.iconst 1) 1 rfl rfl rfl ?_
        refine ev_op (st' := [.int ((gF G (7 + p5) 4) + 1), .ref (g + (7 + p5))]) (pc' := 46) hk (.iadd) 1 rfl rfl rfl ?_
        obtain ⟨G8, hG8, hx⟩ := bnd_some hx
        have hG8 := Option.some.inj hG8
        refine ev_pf 49 hk rfl rfl (lk_spot hg hpp5 gup_same) rfl rfl rfl (sf_6_4 hg hpp5 gup_same hG8 gup_gup) rfl ?_
        refine ev_ls (L' := [some (.ref g), some (.int (a1 + 1)), some (.ref (g + (7 + p5)))]) (st' := []) (pc' := 52) hk (.iinc 1 1) 3 rfl rfl rfl rfl ?_
        refine ev_jp (pc' := 2) (st' := []) hk (.goto (-50)) 3 rfl rfl rfl rfl rfl ?_
        cases hx
        exact hM (some (.ref (g + (7 + p5)))) rfl
set_option maxRecDepth 2000 in
theorem rG_turnDiaries {S : Nat} {xs : Nat → Int32} {I : zI} {C : zC} {Y : Nat → Int32} {Γ : Nat → zG} {D : zD} {O : Nat → Int32} {M : zM} {ou : Nat → Int64} {od : Nat → UInt64} {j : Nat} {g : Nat} {G : zG}  {X : zG}  (hg : isG g) (hx : fG_turnDiaries G = some X) : Ev S xs 254 0 [some (.ref g), none, none] [] (zH I C Y (gup Γ g G) D O M ou od j) (((.inl none), (zH I C Y (gup Γ g X) D O M ou od j)) : (Option Value ⊕ String) × px_H) := by
  generalize hM : (((.inl none), (zH I C Y (gup Γ g X) D O M ou od j)) : (Option Value ⊕ String) × px_H) = y
  replace hM := hM.symm
  have hk : pt_mt[254]? = some pt_r254 := rfl
  unfold fG_turnDiaries at hx
  refine ev_op (st' := [.int 0]) (pc' := 1) hk (.iconst 0) 1 rfl rfl rfl ?_
  refine ev_ls (L' := [some (.ref g), some (.int 0), none]) (st' := []) (pc' := 2) hk (.istore_n 1) 1 rfl rfl rfl rfl ?_
  exact ev_iter (qG_turnDiaries_2 S xs I C Y Γ D O M ou od j g _) (fun X : zG => y = (((.inl none), (zH I C Y (gup Γ g X) D O M ou od j)) : (Option Value ⊕ String) × px_H)) (fun s x hb hM => rG_turnDiaries_b2 hg hb hM) fu _ _ hx hM none rfl
set_option maxRecDepth 4000 in
theorem rG_meridianBeside_j12 {S : Nat} {xs : Nat → Int32} {I : zI} {C : zC} {Y : Nat → Int32} {Γ : Nat → zG} {D : zD} {O : Nat → Int32} {M : zM} {ou : Nat → Int64} {od : Nat → UInt64} {j : Nat} {a0t : Int32} {a1t : Int32} {y : (Option Value ⊕ String) × px_H} {x : Int32}  (hx : fG_meridianBeside_j12 a0t a1t = x) (hM : (fun X : Int32 => y = (((.inl (some (.int X))), (zH I C Y Γ D O M ou od j)) : (Option Value ⊕ String) × px_H)) x) (u0 : Option Value) (hu0 : px_cz u0 = true) (u1 : Option Value) (hu1 : px_cz u1 = true) : Ev S xs 240 12 [u0, u1] [.int a0t, .int a1t] (zH I C Y Γ D O M ou od j) y := by
  have hk : pt_mt[240]? = some pt_r240 := rfl
  unfold fG_meridianBeside_j12 at hx
  refine ev_op (st' := [.int (a1t + a0t)]) (pc' := 13) hk (.iadd) 1 rfl rfl rfl ?_
  refine ev_op (st' := [.int 360, .int (a1t + a0t)]) (pc' := 16) hk (.sipush 360) 3 rfl rfl rfl ?_
  refine ev_rem 17 hk rfl (by decide) rfl ?_
  cases hx
  obtain rfl := hM
  exact ev_retI hk rfl rfl
set_option maxRecDepth 2000 in
theorem rG_meridianBeside {S : Nat} {xs : Nat → Int32} {I : zI} {C : zC} {Y : Nat → Int32} {Γ : Nat → zG} {D : zD} {O : Nat → Int32} {M : zM} {ou : Nat → Int64} {od : Nat → UInt64} {j : Nat} {a0 : Int32} {a1 : Int32} {X : Int32}   (hx : fG_meridianBeside a0 a1 = X) : Ev S xs 240 0 [some (.int a0), some (.int a1)] [] (zH I C Y Γ D O M ou od j) (((.inl (some (.int X))), (zH I C Y Γ D O M ou od j)) : (Option Value ⊕ String) × px_H) := by
  generalize hM : (((.inl (some (.int X))), (zH I C Y Γ D O M ou od j)) : (Option Value ⊕ String) × px_H) = y
  replace hM := hM.symm
  have hk : pt_mt[240]? = some pt_r240 := rfl
  unfold fG_meridianBeside at hx
  refine ev_ls (L' := [some (.int a0), some (.int a1)]) (st' := [.int a0]) (pc' := 1) hk (.iload_n 0) 1 rfl rfl rfl rfl ?_
  refine ev_ls (L' := [some (.int a0), some (.int a1)]) (st' := [.int a1, .int a0]) (pc' := 2) hk (.iload_n 1) 1 rfl rfl rfl rfl ?_
  refine ev_d1 9 5 hk rfl rfl rfl rfl (px_cne hx (fun hc hx => ?_) (fun hc hx => ?_))
  · refine ev_op (st' := [.int 359, .int a0]) (pc' := 12) hk (.sipush 359) 3 rfl rfl rfl ?_
    exact rG_meridianBeside_j12 hx hM (some (.int a0)) rfl (some (.int a1)) rfl
  · refine ev_op (st' := [.int 1, .int a0]) (pc' := 6) hk (.iconst 1) 1 rfl rfl rfl ?_
    refine ev_jp (pc' := 12) (st' := [.int 1, .int a0]) hk (.goto 6) 3 rfl rfl rfl rfl rfl ?_
    exact rG_meridianBeside_j12 hx hM (some (.int a0)) rfl (some (.int a1)) rfl
def qC_isTornAt_2 (S : Nat) (xs : Nat → Int32) (I : zI) (C : zC) (Y : Nat → Int32) (Γ : Nat → zG) (D : zD) (O : Nat → Int32) (M : zM) (ou : Nat → Int64) (od : Nat → UInt64) (j : Nat) (g : Nat) (G : zG) (a1 : Int32) (y : (Option Value ⊕ String) × px_H) (s : Int32) : Prop := Ev S xs 12 2 [some (.ref (g + 1)), some (.int a1), some (.int s)] [] (zH I C Y (gup Γ g G) D O M ou od j) y
set_option maxRecDepth 4000 in
theorem rC_isTornAt_b2 {S : Nat} {xs : Nat → Int32} {I : zI} {C : zC} {Y : Nat → Int32} {Γ : Nat → zG} {D : zD} {O : Nat → Int32} {M : zM} {ou : Nat → Int64} {od : Nat → UInt64} {j : Nat} {g : Nat} {G : zG} {a1 : Int32} {y : (Option Value ⊕ String) × px_H} {s : Int32} {x : (Int32) ⊕ (Bool)} (hg : isG g) (hx : fC_isTornAt_b2 G a1 s = some x) (hM : (Sum.elim (qC_isTornAt_2 S xs I C Y Γ D O M ou od j g G a1 y) (fun X : Bool => y = (((.inl (some (.int (b2i X)))), (zH I C Y (gup Γ g G) D O M ou od j)) : (Option Value ⊕ String) × px_H))) x) : qC_isTornAt_2 S xs I C Y Γ D O M ou od j g G a1 y s := by
  revert hx
  generalize s = a2
  intro hx
  have hk : pt_mt[12]? = some pt_r12 := rfl
  unfold fC_isTornAt_b2 at hx
  try dsimp only at hx
  refine ev_ls (L' := [some (.ref (g + 1)), some (.int a1), some (.int a2)]) (st' := [.int a2]) (pc' := 3) hk (.iload_n 2) 1 rfl rfl rfl rfl ?_
  refine ev_ls (L' := [some (.ref (g + 1)), some (.int a1), some (.int a2)]) (st' := [.ref (g + 1), .int a2]) (pc' := 4) hk (.aload_n 0) 1 rfl rfl rfl rfl ?_
  refine ev_gf (.int (gF G 1 0)) 7 hk rfl rfl (lk_cloth hg gup_same) rfl rfl ?_
  refine ev_d2 37 10 hk rfl rfl rfl rfl (px_cge hx (fun hc hx => ?_) (fun hc hx => ?_))
  · refine ev_op (st' := [.int 0]) (pc' := 38) hk (.iconst 0) 1 rfl rfl rfl ?_
    cases hx
    obtain rfl := hM
    exact ev_retZ false rfl hk rfl rfl
  · refine ev_ls (L' := [some (.ref (g + 1)), some (.int a1), some (.int a2)]) (st' := [.ref (g + 1)]) (pc' := 11) hk (.aload_n 0) 1 rfl rfl rfl rfl ?_
    refine ev_gf (.ref (g + 3)) 14 hk rfl rfl (lk_cloth hg gup_same) rfl rfl ?_
    refine ev_ls (L' := [some (.ref (g + 1)), some (.int a1), some (.int a2)]) (st' := [.int a2, .ref (g + 3)]) (pc' := 15) hk (.iload_n 2) 1 rfl rfl rfl rfl ?_
    obtain ⟨v3, hv3, hx⟩ := bnd_some hx
    refine ev_ial hv3 16 hk rfl (lk_a3 hg gup_same) rfl ?_
    refine ev_ls (L' := [some (.ref (g + 1)), some (.int a1), some (.int a2)]) (st' := [.int a1, .int v3]) (pc' := 17) hk (.iload_n 1) 1 rfl rfl rfl rfl ?_
    refine ev_d2 31 20 hk rfl rfl rfl rfl (px_cne hx (fun hc hx => ?_) (fun hc hx => ?_))
    · refine ev_ls (L' := [some (.ref (g + 1)), some (.int a1), some (.int (a2 + 1))]) (st' := []) (pc' := 34) hk (.iinc 2 1) 3 rfl rfl rfl rfl ?_
      refine ev_jp (pc' := 2) (st' := []) hk (.goto (-32)) 3 rfl rfl rfl rfl rfl ?_
      cases hx
      exact hM
    · refine ev_ls (L' := [some (.ref (g + 1)), some (.int a1), some (.int a2)]) (st' := [.ref (g + 1)]) (pc' := 21) hk (.aload_n 0) 1 rfl rfl rfl rfl ?_
      refine ev_gf (.ref (g + 4)) 24 hk rfl rfl (lk_cloth hg gup_same) rfl rfl ?_
      refine ev_ls (L' := [some (.ref (g + 1)), some (.int a1), some (.int a2)]) (st' := [.int a2, .ref (g + 4)]) (pc' := 25) hk (.iload_n 2) 1 rfl rfl rfl rfl ?_
      obtain ⟨v4, hv4, hx⟩ := bnd_some hx
      refine ev_ial hv4 26 hk rfl (lk_a4 hg gup_same) rfl ?_
      refine ev_d1 31 29 hk rfl rfl rfl rfl (px_cne hx (fun hc hx => ?_) (fun hc hx => ?_))
      · refine ev_ls (L' := [some (.ref (g + 1)), some (.int a1), some (.int (a2 + 1))]) (st' := []) (pc' := 34) hk (.iinc 2 1) 3 rfl rfl rfl rfl ?_
        refine ev_jp (pc' := 2) (st' := []) hk (.goto (-32)) 3 rfl rfl rfl rfl rfl ?_
        cases hx
        exact hM
      · refine ev_op (st' := [.int 1]) (pc' := 30) hk (.iconst 1) 1 rfl rfl rfl ?_
        cases hx
        obtain rfl := hM
        exact ev_retZ true rfl hk rfl rfl
set_option maxRecDepth 2000 in
theorem rC_isTornAt {S : Nat} {xs : Nat → Int32} {I : zI} {C : zC} {Y : Nat → Int32} {Γ : Nat → zG} {D : zD} {O : Nat → Int32} {M : zM} {ou : Nat → Int64} {od : Nat → UInt64} {j : Nat} {g : Nat} {G : zG} {a1 : Int32} {X : Bool}  (hg : isG g) (hx : fC_isTornAt G a1 = some X) : Ev S xs 12 0 [some (.ref (g + 1)), some (.int a1), none] [] (zH I C Y (gup Γ g G) D O M ou od j) (((.inl (some (.int (b2i X)))), (zH I C Y (gup Γ g G) D O M ou od j)) : (Option Value ⊕ String) × px_H) := by
  generalize hM : (((.inl (some (.int (b2i X)))), (zH I C Y (gup Γ g G) D O M ou od j)) : (Option Value ⊕ String) × px_H) = y
  replace hM := hM.symm
  have hk : pt_mt[12]? = some pt_r12 := rfl
  unfold fC_isTornAt at hx
  refine ev_op (st' := [.int 0]) (pc' := 1) hk (.iconst 0) 1 rfl rfl rfl ?_
  refine ev_ls (L' := [some (.ref (g + 1)), some (.int a1), some (.int 0)]) (st' := []) (pc' := 2) hk (.istore_n 2) 1 rfl rfl rfl rfl ?_
  exact ev_iter (qC_isTornAt_2 S xs I C Y Γ D O M ou od j g G a1 _) (fun X : Bool => y = (((.inl (some (.int (b2i X)))), (zH I C Y (gup Γ g G) D O M ou od j)) : (Option Value ⊕ String) × px_H)) (fun s x hb hM => rC_isTornAt_b2 hg hb hM) fu _ _ hx hM 
set_option maxRecDepth 4000 in
theorem rG_stepHindrance_j28 {S : Nat} {xs : Nat → Int32} {I : zI} {C : zC} {Y : Nat → Int32} {Γ : Nat → zG} {D : zD} {O : Nat → Int32} {M : zM} {ou : Nat → Int64} {od : Nat → UInt64} {j : Nat} {g : Nat} {G : zG} {a0t : Int32} {y : (Option Value ⊕ String) × px_H} {x : Int32} (hg : isG g) (hx : fG_stepHindrance_j28 G a0t = some x) (hM : (fun X : Int32 => y = (((.inl (some (.int X))), (zH I C Y (gup Γ g G) D O M ou od j)) : (Option Value ⊕ String) × px_H)) x) (u1 : Option Value) (hu1 : px_cz u1 = true) (u2 : Option Value) (hu2 : px_cz u2 = true) : Ev S xs 251 28 [some (.ref g), u1, u2, none] [.int a0t] (zH I C Y (gup Γ g G) D O M ou od j) y := by
  have hk : pt_mt[251]? = some pt_r251 := rfl
  unfold fG_stepHindrance_j28 at hx
  refine ev_ls (L' := [some (.ref g), u1, u2, some (.int a0t)]) (st' := []) (pc' := 29) hk (.istore_n 3) 1 rfl rfl (congrArg (Option.map (fun L => (L, []))) (px_st1_v (i := 2) (L := [some (.ref g), u1, u2, none]) hu2 rfl rfl rfl)) rfl ?_
  refine ev_ls (L' := [some (.ref g), u1, u2, some (.int a0t)]) (st' := [.ref g]) (pc' := 30) hk (.aload_n 0) 1 rfl rfl rfl rfl ?_
  refine ev_gf (.ref (g + 1)) 33 hk rfl rfl (lk_globe hg gup_same) rfl rfl ?_
  refine ev_ls (L' := [some (.ref g), u1, u2, some (.int a0t)]) (st' := [.int a0t, .ref (g + 1)]) (pc' := 34) hk (.iload_n 3) 1 rfl rfl rfl rfl ?_
  obtain ⟨v1, hc2, hx⟩ := bnd_some hx
  refine ev_cv 12 1 [.int (b2i v1)] 37 hk rfl rfl rfl rfl (lk_cloth hg gup_same) rfl rfl rfl (rC_isTornAt hg hc2) rfl rfl rfl rfl ?_
  refine ev_d1 44 40 hk rfl rfl rfl rfl (px_beq hx (fun hc hx => ?_) (fun hc hx => ?_))
  · refine ev_op (st' := [.int 0]) (pc' := 45) hk (.iconst 0) 1 rfl rfl rfl ?_
    cases hx
    obtain rfl := hM
    exact ev_retI hk rfl rfl
  · refine ev_op (st' := [.int 2]) (pc' := 41) hk (.iconst 2) 1 rfl rfl rfl ?_
    refine ev_jp (pc' := 45) (st' := [.int 2]) hk (.goto 4) 3 rfl rfl rfl rfl rfl ?_
    cases hx
    obtain rfl := hM
    exact ev_retI hk rfl rfl
set_option maxRecDepth 2000 in
theorem rG_stepHindrance {S : Nat} {xs : Nat → Int32} {I : zI} {C : zC} {Y : Nat → Int32} {Γ : Nat → zG} {D : zD} {O : Nat → Int32} {M : zM} {ou : Nat → Int64} {od : Nat → UInt64} {j : Nat} {g : Nat} {G : zG} {p1 : Nat} {a2 : Int32} {X : Int32}  (hg : isG g) (hp1 : p1 < 10) (hx : fG_stepHindrance G p1 a2 = some X) : Ev S xs 251 0 [some (.ref g), some (.ref (g + (7 + p1))), some (.int a2), none] [] (zH I C Y (gup Γ g G) D O M ou od j) (((.inl (some (.int X))), (zH I C Y (gup Γ g G) D O M ou od j)) : (Option Value ⊕ String) × px_H) := by
  generalize hM : (((.inl (some (.int X))), (zH I C Y (gup Γ g G) D O M ou od j)) : (Option Value ⊕ String) × px_H) = y
  replace hM := hM.symm
  have hk : pt_mt[251]? = some pt_r251 := rfl
  unfold fG_stepHindrance at hx
  refine ev_ls (L' := [some (.ref g), some (.ref (g + (7 + p1))), some (.int a2), none]) (st' := [.ref (g + (7 + p1))]) (pc' := 1) hk (.aload_n 1) 1 rfl rfl rfl rfl ?_
  refine ev_gf (.int (b2i (gB G (7 + p1)))) 4 hk rfl rfl (lk_spot hg hp1 gup_same) rfl rfl ?_
  refine ev_d1 9 7 hk rfl rfl rfl rfl (px_bne hx (fun hc hx => ?_) (fun hc hx => ?_))
  · refine ev_ls (L' := [some (.ref g), some (.ref (g + (7 + p1))), some (.int a2), none]) (st' := [.int a2]) (pc' := 10) hk (.iload_n 2) 1 rfl rfl rfl rfl ?_
    refine ev_d1 24 13 hk rfl rfl rfl rfl (px_cne hx (fun hc hx => ?_) (fun hc hx => ?_))
    · refine ev_ls (L' := [some (.ref g), some (.ref (g + (7 + p1))), some (.int a2), none]) (st' := [.ref (g + (7 + p1))]) (pc' := 25) hk (.aload_n 1) 1 rfl rfl rfl rfl ?_
      refine ev_gf (.int (gF G (7 + p1) 3)) 28 hk rfl rfl (lk_spot hg hp1 gup_same) rfl rfl ?_
      exact rG_stepHindrance_j28 hg hx hM (some (.ref (g + (7 + p1)))) rfl (some (.int a2)) rfl
    · refine ev_ls (L' := [some (.ref g), some (.ref (g + (7 + p1))), some (.int a2), none]) (st' := [.ref (g + (7 + p1))]) (pc' := 14) hk (.aload_n 1) 1 rfl rfl rfl rfl ?_
      refine ev_gf (.int (gF G (7 + p1) 3)) 17 hk rfl rfl (lk_spot hg hp1 gup_same) rfl rfl ?_
      refine ev_op (st' := [.int 0, .int (gF G (7 + p1) 3)]) (pc' := 18) hk (.iconst 0) 1 rfl rfl rfl ?_
      refine ev_cs 240 2 [.int (fG_meridianBeside (gF G (7 + p1) 3) 0)] 21 hk rfl rfl (by decide) rfl rfl rfl (rG_meridianBeside rfl) rfl rfl rfl rfl ?_
      refine ev_jp (pc' := 28) (st' := [.int (fG_meridianBeside (gF G (7 + p1) 3) 0)]) hk (.goto 7) 3 rfl rfl rfl rfl rfl ?_
      exact rG_stepHindrance_j28 hg hx hM (some (.ref (g + (7 + p1)))) rfl (some (.int a2)) rfl
  · refine ev_op (st' := [.int 1]) (pc' := 8) hk (.iconst 1) 1 rfl rfl rfl ?_
    cases hx
    obtain rfl := hM
    exact ev_retI hk rfl rfl
set_option maxRecDepth 4000 in
theorem rG_makeStep_j181 {S : Nat} {xs : Nat → Int32} {I : zI} {C : zC} {Y : Nat → Int32} {Γ : Nat → zG} {D : zD} {O : Nat → Int32} {M : zM} {ou : Nat → Int64} {od : Nat → UInt64} {j : Nat} {g : Nat} {G : zG} {p1 : Nat} {a4 : Int32} {y : (Option Value ⊕ String) × px_H} {x : zG} (hg : isG g) (hp1 : p1 < 10) (hx : fG_makeStep_j181 G p1 a4 = some x) (hM : (fun X : zG => y = (((.inl none), (zH I C Y (gup Γ g X) D O M ou od j)) : (Option Value ⊕ String) × px_H)) x) (u0 : Option Value) (hu0 : px_cz u0 = true) (u2 : Option Value) (hu2 : px_cz u2 = true) (u3 : Option Value) (hu3 : px_cz u3 = true) (u5 : Option Value) (hu5 : px_cz u5 = true) (u6 : Option Value) (hu6 : px_cz u6 = true) (u7 : Option Value) (hu7 : px_cz u7 = true) : Ev S xs 239 181 [u0, some (.ref (g + (7 + p1))), u2, u3, some (.int a4), u5, u6, u7] [] (zH I C Y (gup Γ g G) D O M ou od j) y := by
  have hk : pt_mt[239]? = some pt_r239 := rfl
  unfold fG_makeStep_j181 at hx
  refine ev_ls (L' := [u0, some (.ref (g + (7 + p1))), u2, u3, some (.int a4), u5, u6, u7]) (st' := [.ref (g + (7 + p1))]) (pc' := 182) hk (.aload_n 1) 1 rfl rfl rfl rfl ?_
  refine ev_ls (L' := [u0, some (.ref (g + (7 + p1))), u2, u3, some (.int a4), u5, u6, u7]) (st' := [.int a4, .ref (g + (7 + p1))]) (pc' := 184) hk (.iload 4) 2 rfl rfl rfl rfl ?_
  obtain ⟨G17, hG17, hx⟩ := bnd_some hx
  have hG17 := Option.some.inj hG17
  refine ev_pf 187 hk rfl rfl (lk_spot hg hp1 gup_same) rfl rfl rfl (sf_6_3 hg hp1 gup_same hG17 gup_gup) rfl ?_
  cases hx
  obtain rfl := hM
  exact ev_retv hk rfl rfl
set_option maxRecDepth 4000 in
theorem rG_makeStep_j116 {S : Nat} {xs : Nat → Int32} {I : zI} {C : zC} {Y : Nat → Int32} {Γ : Nat → zG} {D : zD} {O : Nat → Int32} {M : zM} {ou : Nat → Int64} {od : Nat → UInt64} {j : Nat} {g : Nat} {G : zG} {p1 : Nat} {a4 : Int32} {a0t : Bool} {a1t : Int32} {p2t : Nat} {y : (Option Value ⊕ String) × px_H} {x : zG} (hg : isG g) (hp1 : p1 < 10) (hp2t : p2t < 10) (hx : fG_makeStep_j116 G p1 a4 a0t a1t p2t = some x) (hM : (fun X : zG => y = (((.inl none), (zH I C Y (gup Γ g X) D O M ou od j)) : (Option Value ⊕ String) × px_H)) x) (u0 : Option Value) (hu0 : px_cz u0 = true) (u2 : Option Value) (hu2 : px_cz u2 = true) (u3 : Option Value) (hu3 : px_cz u3 = true) (u5 : Option Value) (hu5 : px_cz u5 = true) (u6 : Option Value) (hu6 : px_cz u6 = true) (u7 : Option Value) (hu7 : px_cz u7 = true) : Ev S xs 239 116 [u0, some (.ref (g + (7 + p1))), u2, u3, some (.int a4), u5, u6, u7] [.int (b2i a0t), .int a1t, .ref (g + (7 + p2t))] (zH I C Y (gup Γ g G) D O M ou od j) y := by
  have hk : pt_mt[239]? = some pt_r239 := rfl
  unfold fG_makeStep_j116 at hx
  refine ev_op (st' := [.int (a1t + (b2i a0t)), .ref (g + (7 + p2t))]) (pc' := 117) hk (.iadd) 1 rfl rfl rfl ?_
  obtain ⟨G14, hG14, hx⟩ := bnd_some hx
  have hG14 := Option.some.inj hG14
  refine ev_pf 120 hk rfl rfl (lk_spot hg hp2t gup_same) rfl rfl rfl (sf_6_7 hg hp2t gup_same hG14 gup_gup) rfl ?_
  refine ev_jp (pc' := 181) (st' := []) hk (.goto 61) 3 rfl rfl rfl rfl rfl ?_
  exact rG_makeStep_j181 hg hp1 hx hM u0 hu0 u2 hu2 u3 hu3 u5 hu5 u6 hu6 u7 hu7
set_option maxRecDepth 4000 in
theorem rG_makeStep_j94 {S : Nat} {xs : Nat → Int32} {I : zI} {C : zC} {Y : Nat → Int32} {Γ : Nat → zG} {D : zD} {O : Nat → Int32} {M : zM} {ou : Nat → Int64} {od : Nat → UInt64} {j : Nat} {g : Nat} {G : zG} {p1 : Nat} {a4 : Int32} {a7 : Int32} {a0t : Bool} {a1t : Bool} {a2t : Int32} {p3t : Nat} {y : (Option Value ⊕ String) × px_H} {x : zG} (hg : isG g) (hp1 : p1 < 10) (hp3t : p3t < 10) (hx : fG_makeStep_j94 G p1 a4 a7 a0t a1t a2t p3t = some x) (hM : (fun X : zG => y = (((.inl none), (zH I C Y (gup Γ g X) D O M ou od j)) : (Option Value ⊕ String) × px_H)) x) (u0 : Option Value) (hu0 : px_cz u0 = true) (u2 : Option Value) (hu2 : px_cz u2 = true) (u3 : Option Value) (hu3 : px_cz u3 = true) (u5 : Option Value) (hu5 : px_cz u5 = true) (u6 : Option Value) (hu6 : px_cz u6 = true) : Ev S xs 239 94 [u0, some (.ref (g + (7 + p1))), u2, u3, some (.int a4), u5, u6, some (.int a7)] [.int (b2i a0t), .int (b2i a1t), .int a2t, .ref (g + (7 + p3t))] (zH I C Y (gup Γ g G) D O M ou od j) y := by
  have hk : pt_mt[239]? = some pt_r239 := rfl
  unfold fG_makeStep_j94 at hx
  refine ev_op (st' := [.int ((b2i a1t) - (b2i a0t)), .int a2t, .ref (g + (7 + p3t))]) (pc' := 95) hk (.isub) 1 rfl rfl rfl ?_
  refine ev_op (st' := [.int (a2t + ((b2i a1t) - (b2i a0t))), .ref (g + (7 + p3t))]) (pc' := 96) hk (.iadd) 1 rfl rfl rfl ?_
  obtain ⟨G13, hG13, hx⟩ := bnd_some hx
  have hG13 := Option.some.inj hG13
  refine ev_pf 99 hk rfl rfl (lk_spot hg hp3t gup_same) rfl rfl rfl (sf_6_4 hg hp3t gup_same hG13 gup_gup) rfl ?_
  refine ev_ls (L' := [u0, some (.ref (g + (7 + p1))), u2, u3, some (.int a4), u5, u6, some (.int a7)]) (st' := [.ref (g + (7 + p1))]) (pc' := 100) hk (.aload_n 1) 1 rfl rfl rfl rfl ?_
  refine ev_op (st' := [.ref (g + (7 + p1)), .ref (g + (7 + p1))]) (pc' := 101) hk (.dup) 1 rfl rfl rfl ?_
  refine ev_gf (.int (gF G13 (7 + p1) 7)) 104 hk rfl rfl (lk_spot hg hp1 gup_same) rfl rfl ?_
  refine ev_ls (L' := [u0, some (.ref (g + (7 + p1))), u2, u3, some (.int a4), u5, u6, some (.int a7)]) (st' := [.int a4, .int (gF G13 (7 + p1) 7), .ref (g + (7 + p1))]) (pc' := 106) hk (.iload 4) 2 rfl rfl rfl rfl ?_
  refine ev_ls (L' := [u0, some (.ref (g + (7 + p1))), u2, u3, some (.int a4), u5, u6, some (.int a7)]) (st' := [.int a7, .int a4, .int (gF G13 (7 + p1) 7), .ref (g + (7 + p1))]) (pc' := 108) hk (.iload 7) 2 rfl rfl rfl rfl ?_
  refine ev_d2 115 111 hk rfl rfl rfl rfl (px_cne hx (fun hc hx => ?_) (fun hc hx => ?_))
  · refine ev_op (st' := [.int 0, .int (gF G13 (7 + p1) 7), .ref (g + (7 + p1))]) (pc' := 116) hk (.iconst 0) 1 rfl rfl rfl ?_
    exact rG_makeStep_j116 hg hp1 hp1 hx hM u0 hu0 u2 hu2 u3 hu3 u5 hu5 u6 hu6 (some (.int a7)) rfl
  · refine ev_op (st' := [.int 1, .int (gF G13 (7 + p1) 7), .ref (g + (7 + p1))]) (pc' := 112) hk (.iconst 1) 1 rfl rfl rfl ?_
    refine ev_jp (pc' := 116) (st' := [.int 1, .int (gF G13 (7 + p1) 7), .ref (g + (7 + p1))]) hk (.goto 4) 3 rfl rfl rfl rfl rfl ?_
    exact rG_makeStep_j116 hg hp1 hp1 hx hM u0 hu0 u2 hu2 u3 hu3 u5 hu5 u6 hu6 (some (.int a7)) rfl
set_option maxRecDepth 4000 in
theorem rG_makeStep_j82 {S : Nat} {xs : Nat → Int32} {I : zI} {C : zC} {Y : Nat → Int32} {Γ : Nat → zG} {D : zD} {O : Nat → Int32} {M : zM} {ou : Nat → Int64} {od : Nat → UInt64} {j : Nat} {g : Nat} {G : zG} {p1 : Nat} {a4 : Int32} {a7 : Int32} {a0t : Bool} {a1t : Int32} {p2t : Nat} {y : (Option Value ⊕ String) × px_H} {x : zG} (hg : isG g) (hp1 : p1 < 10) (hp2t : p2t < 10) (hx : fG_makeStep_j82 G p1 a4 a7 a0t a1t p2t = some x) (hM : (fun X : zG => y = (((.inl none), (zH I C Y (gup Γ g X) D O M ou od j)) : (Option Value ⊕ String) × px_H)) x) (u0 : Option Value) (hu0 : px_cz u0 = true) (u2 : Option Value) (hu2 : px_cz u2 = true) (u3 : Option Value) (hu3 : px_cz u3 = true) (u5 : Option Value) (hu5 : px_cz u5 = true) (u6 : Option Value) (hu6 : px_cz u6 = true) : Ev S xs 239 82 [u0, some (.ref (g + (7 + p1))), u2, u3, some (.int a4), u5, u6, some (.int a7)] [.int (b2i a0t), .int a1t, .ref (g + (7 + p2t))] (zH I C Y (gup Γ g G) D O M ou od j) y := by
  have hk : pt_mt[239]? = some pt_r239 := rfl
  unfold fG_makeStep_j82 at hx
  refine ev_ls (L' := [u0, some (.ref (g + (7 + p1))), u2, u3, some (.int a4), u5, u6, some (.int a7)]) (st' := [.int a4, .int (b2i a0t), .int a1t, .ref (g + (7 + p2t))]) (pc' := 84) hk (.iload 4) 2 rfl rfl rfl rfl ?_
  refine ev_ls (L' := [u0, some (.ref (g + (7 + p1))), u2, u3, some (.int a4), u5, u6, some (.int a7)]) (st' := [.int a7, .int a4, .int (b2i a0t), .int a1t, .ref (g + (7 + p2t))]) (pc' := 86) hk (.iload 7) 2 rfl rfl rfl rfl ?_
  refine ev_d2 93 89 hk rfl rfl rfl rfl (px_cne hx (fun hc hx => ?_) (fun hc hx => ?_))
  · refine ev_op (st' := [.int 0, .int (b2i a0t), .int a1t, .ref (g + (7 + p2t))]) (pc' := 94) hk (.iconst 0) 1 rfl rfl rfl ?_
    exact rG_makeStep_j94 hg hp1 hp2t hx hM u0 hu0 u2 hu2 u3 hu3 u5 hu5 u6 hu6
  · refine ev_op (st' := [.int 1, .int (b2i a0t), .int a1t, .ref (g + (7 + p2t))]) (pc' := 90) hk (.iconst 1) 1 rfl rfl rfl ?_
    refine ev_jp (pc' := 94) (st' := [.int 1, .int (b2i a0t), .int a1t, .ref (g + (7 + p2t))]) hk (.goto 4) 3 rfl rfl rfl rfl rfl ?_
    exact rG_makeStep_j94 hg hp1 hp2t hx hM u0 hu0 u2 hu2 u3 hu3 u5 hu5 u6 hu6
set_option maxRecDepth 4000 in
theorem rG_makeStep_j81 {S : Nat} {xs : Nat → Int32} {I : zI} {C : zC} {Y : Nat → Int32} {Γ : Nat → zG} {D : zD} {O : Nat → Int32} {M : zM} {ou : Nat → Int64} {od : Nat → UInt64} {j : Nat} {g : Nat} {G : zG} {p1 : Nat} {a4 : Int32} {a7 : Int32} {a0t : Int32} {p1t : Nat} {y : (Option Value ⊕ String) × px_H} {x : zG} (hg : isG g) (hp1 : p1 < 10) (hp1t : p1t < 10) (hx : fG_makeStep_j81 G p1 a4 a7 a0t p1t = some x) (hM : (fun X : zG => y = (((.inl none), (zH I C Y (gup Γ g X) D O M ou od j)) : (Option Value ⊕ String) × px_H)) x) (u0 : Option Value) (hu0 : px_cz u0 = true) (u2 : Option Value) (hu2 : px_cz u2 = true) (u3 : Option Value) (hu3 : px_cz u3 = true) (u5 : Option Value) (hu5 : px_cz u5 = true) (u6 : Option Value) (hu6 : px_cz u6 = true) : Ev S xs 239 81 [u0, some (.ref (g + (7 + p1))), u2, u3, some (.int a4), u5, u6, some (.int a7)] [.int a0t, .ref (g + (7 + p1t))] (zH I C Y (gup Γ g G) D O M ou od j) y := by
  have hk : pt_mt[239]? = some pt_r239 := rfl
  unfold fG_makeStep_j81 at hx
  refine ev_op (st' := [.int 0, .int a0t, .ref (g + (7 + p1t))]) (pc' := 82) hk (.iconst 0) 1 rfl rfl rfl ?_
  exact rG_makeStep_j82 hg hp1 hp1t hx hM u0 hu0 u2 hu2 u3 hu3 u5 hu5 u6 hu6
set_option maxRecDepth 4000 in
theorem rG_makeStep_j177 {S : Nat} {xs : Nat → Int32} {I : zI} {C : zC} {Y : Nat → Int32} {Γ : Nat → zG} {D : zD} {O : Nat → Int32} {M : zM} {ou : Nat → Int64} {od : Nat → UInt64} {j : Nat} {g : Nat} {G : zG} {p1 : Nat} {a4 : Int32} {a0t : Bool} {a1t : Int32} {p2t : Nat} {y : (Option Value ⊕ String) × px_H} {x : zG} (hg : isG g) (hp1 : p1 < 10) (hp2t : p2t < 10) (hx : fG_makeStep_j177 G p1 a4 a0t a1t p2t = some x) (hM : (fun X : zG => y = (((.inl none), (zH I C Y (gup Γ g X) D O M ou od j)) : (Option Value ⊕ String) × px_H)) x) (u0 : Option Value) (hu0 : px_cz u0 = true) (u2 : Option Value) (hu2 : px_cz u2 = true) (u3 : Option Value) (hu3 : px_cz u3 = true) (u5 : Option Value) (hu5 : px_cz u5 = true) (u6 : Option Value) (hu6 : px_cz u6 = true) (u7 : Option Value) (hu7 : px_cz u7 = true) : Ev S xs 239 177 [u0, some (.ref (g + (7 + p1))), u2, u3, some (.int a4), u5, u6, u7] [.int (b2i a0t), .int a1t, .ref (g + (7 + p2t))] (zH I C Y (gup Γ g G) D O M ou od j) y := by
  have hk : pt_mt[239]? = some pt_r239 := rfl
  unfold fG_makeStep_j177 at hx
  refine ev_op (st' := [.int (a1t + (b2i a0t)), .ref (g + (7 + p2t))]) (pc' := 178) hk (.iadd) 1 rfl rfl rfl ?_
  obtain ⟨G16, hG16, hx⟩ := bnd_some hx
  have hG16 := Option.some.inj hG16
  refine ev_pf 181 hk rfl rfl (lk_spot hg hp2t gup_same) rfl rfl rfl (sf_6_7 hg hp2t gup_same hG16 gup_gup) rfl ?_
  exact rG_makeStep_j181 hg hp1 hx hM u0 hu0 u2 hu2 u3 hu3 u5 hu5 u6 hu6 u7 hu7
set_option maxRecDepth 4000 in
theorem rG_makeStep_j156 {S : Nat} {xs : Nat → Int32} {I : zI} {C : zC} {Y : Nat → Int32} {Γ : Nat → zG} {D : zD} {O : Nat → Int32} {M : zM} {ou : Nat → Int64} {od : Nat → UInt64} {j : Nat} {g : Nat} {G : zG} {p1 : Nat} {a3 : Int32} {a4 : Int32} {a7 : Int32} {a0t : Bool} {a1t : Bool} {a2t : Int32} {p3t : Nat} {y : (Option Value ⊕ String) × px_H} {x : zG} (hg : isG g) (hp1 : p1 < 10) (hp3t : p3t < 10) (hx : fG_makeStep_j156 G p1 a3 a4 a7 a0t a1t a2t p3t = some x) (hM : (fun X : zG => y = (((.inl none), (zH I C Y (gup Γ g X) D O M ou od j)) : (Option Value ⊕ String) × px_H)) x) (u0 : Option Value) (hu0 : px_cz u0 = true) (u2 : Option Value) (hu2 : px_cz u2 = true) (u5 : Option Value) (hu5 : px_cz u5 = true) (u6 : Option Value) (hu6 : px_cz u6 = true) : Ev S xs 239 156 [u0, some (.ref (g + (7 + p1))), u2, some (.int a3), some (.int a4), u5, u6, some (.int a7)] [.int (b2i a0t), .int (b2i a1t), .int a2t, .ref (g + (7 + p3t))] (zH I C Y (gup Γ g G) D O M ou od j) y := by
  have hk : pt_mt[239]? = some pt_r239 := rfl
  unfold fG_makeStep_j156 at hx
  refine ev_op (st' := [.int ((b2i a1t) - (b2i a0t)), .int a2t, .ref (g + (7 + p3t))]) (pc' := 157) hk (.isub) 1 rfl rfl rfl ?_
  refine ev_op (st' := [.int (a2t + ((b2i a1t) - (b2i a0t))), .ref (g + (7 + p3t))]) (pc' := 158) hk (.iadd) 1 rfl rfl rfl ?_
  obtain ⟨G15, hG15, hx⟩ := bnd_some hx
  have hG15 := Option.some.inj hG15
  refine ev_pf 161 hk rfl rfl (lk_spot hg hp3t gup_same) rfl rfl rfl (sf_6_4 hg hp3t gup_same hG15 gup_gup) rfl ?_
  refine ev_ls (L' := [u0, some (.ref (g + (7 + p1))), u2, some (.int a3), some (.int a4), u5, u6, some (.int a7)]) (st' := [.ref (g + (7 + p1))]) (pc' := 162) hk (.aload_n 1) 1 rfl rfl rfl rfl ?_
  refine ev_op (st' := [.ref (g + (7 + p1)), .ref (g + (7 + p1))]) (pc' := 163) hk (.dup) 1 rfl rfl rfl ?_
  refine ev_gf (.int (gF G15 (7 + p1) 7)) 166 hk rfl rfl (lk_spot hg hp1 gup_same) rfl rfl ?_
  refine ev_ls (L' := [u0, some (.ref (g + (7 + p1))), u2, some (.int a3), some (.int a4), u5, u6, some (.int a7)]) (st' := [.int a3, .int (gF G15 (7 + p1) 7), .ref (g + (7 + p1))]) (pc' := 167) hk (.iload_n 3) 1 rfl rfl rfl rfl ?_
  refine ev_ls (L' := [u0, some (.ref (g + (7 + p1))), u2, some (.int a3), some (.int a4), u5, u6, some (.int a7)]) (st' := [.int a7, .int a3, .int (gF G15 (7 + p1) 7), .ref (g + (7 + p1))]) (pc' := 169) hk (.iload 7) 2 rfl rfl rfl rfl ?_
  refine ev_d2 176 172 hk rfl rfl rfl rfl (px_cne hx (fun hc hx => ?_) (fun hc hx => ?_))
  · refine ev_op (st' := [.int 0, .int (gF G15 (7 + p1) 7), .ref (g + (7 + p1))]) (pc' := 177) hk (.iconst 0) 1 rfl rfl rfl ?_
    exact rG_makeStep_j177 hg hp1 hp1 hx hM u0 hu0 u2 hu2 (some (.int a3)) rfl u5 hu5 u6 hu6 (some (.int a7)) rfl
  · refine ev_op (st' := [.int 1, .int (gF G15 (7 + p1) 7), .ref (g + (7 + p1))]) (pc' := 173) hk (.iconst 1) 1 rfl rfl rfl ?_
    refine ev_jp (pc' := 177) (st' := [.int 1, .int (gF G15 (7 + p1) 7), .ref (g + (7 + p1))]) hk (.goto 4) 3 rfl rfl rfl rfl rfl ?_
    exact rG_makeStep_j177 hg hp1 hp1 hx hM u0 hu0 u2 hu2 (some (.int a3)) rfl u5 hu5 u6 hu6 (some (.int a7)) rfl
set_option maxRecDepth 4000 in
theorem rG_makeStep_j155 {S : Nat} {xs : Nat → Int32} {I : zI} {C : zC} {Y : Nat → Int32} {Γ : Nat → zG} {D : zD} {O : Nat → Int32} {M : zM} {ou : Nat → Int64} {od : Nat → UInt64} {j : Nat} {g : Nat} {G : zG} {p1 : Nat} {a3 : Int32} {a4 : Int32} {a7 : Int32} {a0t : Bool} {a1t : Int32} {p2t : Nat} {y : (Option Value ⊕ String) × px_H} {x : zG} (hg : isG g) (hp1 : p1 < 10) (hp2t : p2t < 10) (hx : fG_makeStep_j155 G p1 a3 a4 a7 a0t a1t p2t = some x) (hM : (fun X : zG => y = (((.inl none), (zH I C Y (gup Γ g X) D O M ou od j)) : (Option Value ⊕ String) × px_H)) x) (u0 : Option Value) (hu0 : px_cz u0 = true) (u2 : Option Value) (hu2 : px_cz u2 = true) (u5 : Option Value) (hu5 : px_cz u5 = true) (u6 : Option Value) (hu6 : px_cz u6 = true) : Ev S xs 239 155 [u0, some (.ref (g + (7 + p1))), u2, some (.int a3), some (.int a4), u5, u6, some (.int a7)] [.int (b2i a0t), .int a1t, .ref (g + (7 + p2t))] (zH I C Y (gup Γ g G) D O M ou od j) y := by
  have hk : pt_mt[239]? = some pt_r239 := rfl
  unfold fG_makeStep_j155 at hx
  refine ev_op (st' := [.int 0, .int (b2i a0t), .int a1t, .ref (g + (7 + p2t))]) (pc' := 156) hk (.iconst 0) 1 rfl rfl rfl ?_
  exact rG_makeStep_j156 hg hp1 hp2t hx hM u0 hu0 u2 hu2 u5 hu5 u6 hu6
set_option maxRecDepth 4000 in
theorem rG_makeStep_j139 {S : Nat} {xs : Nat → Int32} {I : zI} {C : zC} {Y : Nat → Int32} {Γ : Nat → zG} {D : zD} {O : Nat → Int32} {M : zM} {ou : Nat → Int64} {od : Nat → UInt64} {j : Nat} {g : Nat} {G : zG} {p1 : Nat} {a3 : Int32} {a4 : Int32} {a5 : Int32} {a6 : Int32} {a7 : Int32} {a0t : Bool} {a1t : Int32} {p2t : Nat} {y : (Option Value ⊕ String) × px_H} {x : zG} (hg : isG g) (hp1 : p1 < 10) (hp2t : p2t < 10) (hx : fG_makeStep_j139 G p1 a3 a4 a5 a6 a7 a0t a1t p2t = some x) (hM : (fun X : zG => y = (((.inl none), (zH I C Y (gup Γ g X) D O M ou od j)) : (Option Value ⊕ String) × px_H)) x) (u0 : Option Value) (hu0 : px_cz u0 = true) (u2 : Option Value) (hu2 : px_cz u2 = true) : Ev S xs 239 139 [u0, some (.ref (g + (7 + p1))), u2, some (.int a3), some (.int a4), some (.int a5), some (.int a6), some (.int a7)] [.int (b2i a0t), .int a1t, .ref (g + (7 + p2t))] (zH I C Y (gup Γ g G) D O M ou od j) y := by
  have hk : pt_mt[239]? = some pt_r239 := rfl
  unfold fG_makeStep_j139 at hx
  refine ev_ls (L' := [u0, some (.ref (g + (7 + p1))), u2, some (.int a3), some (.int a4), some (.int a5), some (.int a6), some (.int a7)]) (st' := [.int a5, .int (b2i a0t), .int a1t, .ref (g + (7 + p2t))]) (pc' := 141) hk (.iload 5) 2 rfl rfl rfl rfl ?_
  refine ev_d1 155 144 hk rfl rfl rfl rfl (px_cne hx (fun hc hx => ?_) (fun hc hx => ?_))
  · exact rG_makeStep_j155 hg hp1 hp2t hx hM u0 hu0 u2 hu2 (some (.int a5)) rfl (some (.int a6)) rfl
  · refine ev_ls (L' := [u0, some (.ref (g + (7 + p1))), u2, some (.int a3), some (.int a4), some (.int a5), some (.int a6), some (.int a7)]) (st' := [.int a6, .int (b2i a0t), .int a1t, .ref (g + (7 + p2t))]) (pc' := 146) hk (.iload 6) 2 rfl rfl rfl rfl ?_
    refine ev_op (st' := [.int 23, .int a6, .int (b2i a0t), .int a1t, .ref (g + (7 + p2t))]) (pc' := 148) hk (.bipush 23) 2 rfl rfl rfl ?_
    refine ev_d2 155 151 hk rfl rfl rfl rfl (px_cne hx (fun hc hx => ?_) (fun hc hx => ?_))
    · exact rG_makeStep_j155 hg hp1 hp2t hx hM u0 hu0 u2 hu2 (some (.int a5)) rfl (some (.int a6)) rfl
    · refine ev_op (st' := [.int 1, .int (b2i a0t), .int a1t, .ref (g + (7 + p2t))]) (pc' := 152) hk (.iconst 1) 1 rfl rfl rfl ?_
      refine ev_jp (pc' := 156) (st' := [.int 1, .int (b2i a0t), .int a1t, .ref (g + (7 + p2t))]) hk (.goto 4) 3 rfl rfl rfl rfl rfl ?_
      exact rG_makeStep_j156 hg hp1 hp2t hx hM u0 hu0 u2 hu2 (some (.int a5)) rfl (some (.int a6)) rfl
set_option maxRecDepth 2000 in
theorem rG_makeStep {S : Nat} {xs : Nat → Int32} {I : zI} {C : zC} {Y : Nat → Int32} {Γ : Nat → zG} {D : zD} {O : Nat → Int32} {M : zM} {ou : Nat → Int64} {od : Nat → UInt64} {j : Nat} {g : Nat} {G : zG} {p1 : Nat} {a2 : Int32} {X : zG}  (hg : isG g) (hp1 : p1 < 10) (hx : fG_makeStep G p1 a2 = some X) : Ev S xs 239 0 [some (.ref g), some (.ref (g + (7 + p1))), some (.int a2), none, none, none, none, none] [] (zH I C Y (gup Γ g G) D O M ou od j) (((.inl none), (zH I C Y (gup Γ g X) D O M ou od j)) : (Option Value ⊕ String) × px_H) := by
  generalize hM : (((.inl none), (zH I C Y (gup Γ g X) D O M ou od j)) : (Option Value ⊕ String) × px_H) = y
  replace hM := hM.symm
  have hk : pt_mt[239]? = some pt_r239 := rfl
  unfold fG_makeStep at hx
  refine ev_ls (L' := [some (.ref g), some (.ref (g + (7 + p1))), some (.int a2), none, none, none, none, none]) (st' := [.ref (g + (7 + p1))]) (pc' := 1) hk (.aload_n 1) 1 rfl rfl rfl rfl ?_
  refine ev_gf (.int (gF G (7 + p1) 3)) 4 hk rfl rfl (lk_spot hg hp1 gup_same) rfl rfl ?_
  refine ev_ls (L' := [some (.ref g), some (.ref (g + (7 + p1))), some (.int a2), some (.int (gF G (7 + p1) 3)), none, none, none, none]) (st' := []) (pc' := 5) hk (.istore_n 3) 1 rfl rfl rfl rfl ?_
  refine ev_ls (L' := [some (.ref g), some (.ref (g + (7 + p1))), some (.int a2), some (.int (gF G (7 + p1) 3)), none, none, none, none]) (st' := [.int (gF G (7 + p1) 3)]) (pc' := 6) hk (.iload_n 3) 1 rfl rfl rfl rfl ?_
  refine ev_ls (L' := [some (.ref g), some (.ref (g + (7 + p1))), some (.int a2), some (.int (gF G (7 + p1) 3)), none, none, none, none]) (st' := [.int a2, .int (gF G (7 + p1) 3)]) (pc' := 7) hk (.iload_n 2) 1 rfl rfl rfl rfl ?_
  refine ev_cs 240 2 [.int (fG_meridianBeside (gF G (7 + p1) 3) a2)] 10 hk rfl rfl (by decide) rfl rfl rfl (rG_meridianBeside rfl) rfl rfl rfl rfl ?_
  refine ev_ls (L' := [some (.ref g), some (.ref (g + (7 + p1))), some (.int a2), some (.int (gF G (7 + p1) 3)), some (.int (fG_meridianBeside (gF G (7 + p1) 3) a2)), none, none, none]) (st' := []) (pc' := 12) hk (.istore 4) 2 rfl rfl rfl rfl ?_
  refine ev_ls (L' := [some (.ref g), some (.ref (g + (7 + p1))), some (.int a2), some (.int (gF G (7 + p1) 3)), some (.int (fG_meridianBeside (gF G (7 + p1) 3) a2)), none, none, none]) (st' := [.ref g]) (pc' := 13) hk (.aload_n 0) 1 rfl rfl rfl rfl ?_
  refine ev_ls (L' := [some (.ref g), some (.ref (g + (7 + p1))), some (.int a2), some (.int (gF G (7 + p1) 3)), some (.int (fG_meridianBeside (gF G (7 + p1) 3) a2)), none, none, none]) (st' := [.ref (g + (7 + p1)), .ref g]) (pc' := 14) hk (.aload_n 1) 1 rfl rfl rfl rfl ?_
  refine ev_gf (.int (gF G (7 + p1) 2)) 17 hk rfl rfl (lk_spot hg hp1 gup_same) rfl rfl ?_
  refine ev_ls (L' := [some (.ref g), some (.ref (g + (7 + p1))), some (.int a2), some (.int (gF G (7 + p1) 3)), some (.int (fG_meridianBeside (gF G (7 + p1) 3) a2)), none, none, none]) (st' := [.int (gF G (7 + p1) 3), .int (gF G (7 + p1) 2), .ref g]) (pc' := 18) hk (.iload_n 3) 1 rfl rfl rfl rfl ?_
  obtain ⟨v18, hc19, hx⟩ := bnd_some hx
  refine ev_cv 237 2 [.int v18] 21 hk rfl rfl rfl rfl (lk_globe hg gup_same) rfl rfl rfl (rG_localHours hg hc19) rfl rfl rfl rfl ?_
  refine ev_op (st' := [.int 24, .int v18]) (pc' := 23) hk (.bipush 24) 2 rfl rfl rfl ?_
  obtain ⟨v20, hc21, hx⟩ := bnd_some hx
  refine ev_cs 2 2 [.int v20] 26 hk rfl rfl (by decide) rfl rfl rfl (rJ_floorMod_7cf53 hc21) rfl rfl rfl rfl ?_
  refine ev_ls (L' := [some (.ref g), some (.ref (g + (7 + p1))), some (.int a2), some (.int (gF G (7 + p1) 3)), some (.int (fG_meridianBeside (gF G (7 + p1) 3) a2)), some (.int v20), none, none]) (st' := []) (pc' := 28) hk (.istore 5) 2 rfl rfl rfl rfl ?_
  refine ev_ls (L' := [some (.ref g), some (.ref (g + (7 + p1))), some (.int a2), some (.int (gF G (7 + p1) 3)), some (.int (fG_meridianBeside (gF G (7 + p1) 3) a2)), some (.int v20), none, none]) (st' := [.ref g]) (pc' := 29) hk (.aload_n 0) 1 rfl rfl rfl rfl ?_
  refine ev_ls (L' := [some (.ref g), some (.ref (g + (7 + p1))), some (.int a2), some (.int (gF G (7 + p1) 3)), some (.int (fG_meridianBeside (gF G (7 + p1) 3) a2)), some (.int v20), none, none]) (st' := [.ref (g + (7 + p1)), .ref g]) (pc' := 30) hk (.aload_n 1) 1 rfl rfl rfl rfl ?_
  refine ev_gf (.int (gF G (7 + p1) 2)) 33 hk rfl rfl (lk_spot hg hp1 gup_same) rfl rfl ?_
  refine ev_ls (L' := [some (.ref g), some (.ref (g + (7 + p1))), some (.int a2), some (.int (gF G (7 + p1) 3)), some (.int (fG_meridianBeside (gF G (7 + p1) 3) a2)), some (.int v20), none, none]) (st' := [.int (fG_meridianBeside (gF G (7 + p1) 3) a2), .int (gF G (7 + p1) 2), .ref g]) (pc' := 35) hk (.iload 4) 2 rfl rfl rfl rfl ?_
  obtain ⟨v22, hc23, hx⟩ := bnd_some hx
  refine ev_cv 237 2 [.int v22] 38 hk rfl rfl rfl rfl (lk_globe hg gup_same) rfl rfl rfl (rG_localHours hg hc23) rfl rfl rfl rfl ?_
  refine ev_op (st' := [.int 24, .int v22]) (pc' := 40) hk (.bipush 24) 2 rfl rfl rfl ?_
  obtain ⟨v24, hc25, hx⟩ := bnd_some hx
  refine ev_cs 2 2 [.int v24] 43 hk rfl rfl (by decide) rfl rfl rfl (rJ_floorMod_7cf53 hc25) rfl rfl rfl rfl ?_
  refine ev_ls (L' := [some (.ref g), some (.ref (g + (7 + p1))), some (.int a2), some (.int (gF G (7 + p1) 3)), some (.int (fG_meridianBeside (gF G (7 + p1) 3) a2)), some (.int v20), some (.int v24), none]) (st' := []) (pc' := 45) hk (.istore 6) 2 rfl rfl rfl rfl ?_
  refine ev_ls (L' := [some (.ref g), some (.ref (g + (7 + p1))), some (.int a2), some (.int (gF G (7 + p1) 3)), some (.int (fG_meridianBeside (gF G (7 + p1) 3) a2)), some (.int v20), some (.int v24), none]) (st' := [.ref g]) (pc' := 46) hk (.aload_n 0) 1 rfl rfl rfl rfl ?_
  refine ev_gf (.ref (g + 5)) 49 hk rfl rfl (lk_globe hg gup_same) rfl rfl ?_
  refine ev_ls (L' := [some (.ref g), some (.ref (g + (7 + p1))), some (.int a2), some (.int (gF G (7 + p1) 3)), some (.int (fG_meridianBeside (gF G (7 + p1) 3) a2)), some (.int v20), some (.int v24), none]) (st' := [.ref (g + (7 + p1)), .ref (g + 5)]) (pc' := 50) hk (.aload_n 1) 1 rfl rfl rfl rfl ?_
  refine ev_gf (.int (gF G (7 + p1) 2)) 53 hk rfl rfl (lk_spot hg hp1 gup_same) rfl rfl ?_
  obtain ⟨v26, hv26, hx⟩ := bnd_some hx
  refine ev_ial hv26 54 hk rfl (lk_a5 hg gup_same) rfl ?_
  refine ev_ls (L' := [some (.ref g), some (.ref (g + (7 + p1))), some (.int a2), some (.int (gF G (7 + p1) 3)), some (.int (fG_meridianBeside (gF G (7 + p1) 3) a2)), some (.int v20), some (.int v24), some (.int v26)]) (st' := []) (pc' := 56) hk (.istore 7) 2 rfl rfl rfl rfl ?_
  refine ev_ls (L' := [some (.ref g), some (.ref (g + (7 + p1))), some (.int a2), some (.int (gF G (7 + p1) 3)), some (.int (fG_meridianBeside (gF G (7 + p1) 3) a2)), some (.int v20), some (.int v24), some (.int v26)]) (st' := [.int a2]) (pc' := 57) hk (.iload_n 2) 1 rfl rfl rfl rfl ?_
  refine ev_d1 123 60 hk rfl rfl rfl rfl (px_cne hx (fun hc hx => ?_) (fun hc hx => ?_))
  · refine ev_ls (L' := [some (.ref g), some (.ref (g + (7 + p1))), some (.int a2), some (.int (gF G (7 + p1) 3)), some (.int (fG_meridianBeside (gF G (7 + p1) 3) a2)), some (.int v20), some (.int v24), some (.int v26)]) (st' := [.ref (g + (7 + p1))]) (pc' := 124) hk (.aload_n 1) 1 rfl rfl rfl rfl ?_
    refine ev_op (st' := [.ref (g + (7 + p1)), .ref (g + (7 + p1))]) (pc' := 125) hk (.dup) 1 rfl rfl rfl ?_
    refine ev_gf (.int (gF G (7 + p1) 4)) 128 hk rfl rfl (lk_spot hg hp1 gup_same) rfl rfl ?_
    refine ev_ls (L' := [some (.ref g), some (.ref (g + (7 + p1))), some (.int a2), some (.int (gF G (7 + p1) 3)), some (.int (fG_meridianBeside (gF G (7 + p1) 3) a2)), some (.int v20), some (.int v24), some (.int v26)]) (st' := [.int (gF G (7 + p1) 3), .int (gF G (7 + p1) 4), .ref (g + (7 + p1))]) (pc' := 129) hk (.iload_n 3) 1 rfl rfl rfl rfl ?_
    refine ev_ls (L' := [some (.ref g), some (.ref (g + (7 + p1))), some (.int a2), some (.int (gF G (7 + p1) 3)), some (.int (fG_meridianBeside (gF G (7 + p1) 3) a2)), some (.int v20), some (.int v24), some (.int v26)]) (st' := [.int v26, .int (gF G (7 + p1) 3), .int (gF G (7 + p1) 4), .ref (g + (7 + p1))]) (pc' := 131) hk (.iload 7) 2 rfl rfl rfl rfl ?_
    refine ev_d2 138 134 hk rfl rfl rfl rfl (px_cne hx (fun hc hx => ?_) (fun hc hx => ?_))
    · refine ev_op (st' := [.int 0, .int (gF G (7 + p1) 4), .ref (g + (7 + p1))]) (pc' := 139) hk (.iconst 0) 1 rfl rfl rfl ?_
      exact rG_makeStep_j139 hg hp1 hp1 hx hM (some (.ref g)) rfl (some (.int a2)) rfl
    · refine ev_op (st' := [.int 1, .int (gF G (7 + p1) 4), .ref (g + (7 + p1))]) (pc' := 135) hk (.iconst 1) 1 rfl rfl rfl ?_
      refine ev_jp (pc' := 139) (st' := [.int 1, .int (gF G (7 + p1) 4), .ref (g + (7 + p1))]) hk (.goto 4) 3 rfl rfl rfl rfl rfl ?_
      exact rG_makeStep_j139 hg hp1 hp1 hx hM (some (.ref g)) rfl (some (.int a2)) rfl
  · refine ev_ls (L' := [some (.ref g), some (.ref (g + (7 + p1))), some (.int a2), some (.int (gF G (7 + p1) 3)), some (.int (fG_meridianBeside (gF G (7 + p1) 3) a2)), some (.int v20), some (.int v24), some (.int v26)]) (st' := [.ref (g + (7 + p1))]) (pc' := 61) hk (.aload_n 1) 1 rfl rfl rfl rfl ?_
    refine ev_op (st' := [.ref (g + (7 + p1)), .ref (g + (7 + p1))]) (pc' := 62) hk (.dup) 1 rfl rfl rfl ?_
    refine ev_gf (.int (gF G (7 + p1) 4)) 65 hk rfl rfl (lk_spot hg hp1 gup_same) rfl rfl ?_
    refine ev_ls (L' := [some (.ref g), some (.ref (g + (7 + p1))), some (.int a2), some (.int (gF G (7 + p1) 3)), some (.int (fG_meridianBeside (gF G (7 + p1) 3) a2)), some (.int v20), some (.int v24), some (.int v26)]) (st' := [.int v20, .int (gF G (7 + p1) 4), .ref (g + (7 + p1))]) (pc' := 67) hk (.iload 5) 2 rfl rfl rfl rfl ?_
    refine ev_op (st' := [.int 23, .int v20, .int (gF G (7 + p1) 4), .ref (g + (7 + p1))]) (pc' := 69) hk (.bipush 23) 2 rfl rfl rfl ?_
    refine ev_d2 81 72 hk rfl rfl rfl rfl (px_cne hx (fun hc hx => ?_) (fun hc hx => ?_))
    · exact rG_makeStep_j81 hg hp1 hp1 hx hM (some (.ref g)) rfl (some (.int a2)) rfl (some (.int (gF G (7 + p1) 3))) rfl (some (.int v20)) rfl (some (.int v24)) rfl
    · refine ev_ls (L' := [some (.ref g), some (.ref (g + (7 + p1))), some (.int a2), some (.int (gF G (7 + p1) 3)), some (.int (fG_meridianBeside (gF G (7 + p1) 3) a2)), some (.int v20), some (.int v24), some (.int v26)]) (st' := [.int v24, .int (gF G (7 + p1) 4), .ref (g + (7 + p1))]) (pc' := 74) hk (.iload 6) 2 rfl rfl rfl rfl ?_
      refine ev_d1 81 77 hk rfl rfl rfl rfl (px_cne hx (fun hc hx => ?_) (fun hc hx => ?_))
      · exact rG_makeStep_j81 hg hp1 hp1 hx hM (some (.ref g)) rfl (some (.int a2)) rfl (some (.int (gF G (7 + p1) 3))) rfl (some (.int v20)) rfl (some (.int v24)) rfl
      · refine ev_op (st' := [.int 1, .int (gF G (7 + p1) 4), .ref (g + (7 + p1))]) (pc' := 78) hk (.iconst 1) 1 rfl rfl rfl ?_
        refine ev_jp (pc' := 82) (st' := [.int 1, .int (gF G (7 + p1) 4), .ref (g + (7 + p1))]) hk (.goto 4) 3 rfl rfl rfl rfl rfl ?_
        exact rG_makeStep_j82 hg hp1 hp1 hx hM (some (.ref g)) rfl (some (.int a2)) rfl (some (.int (gF G (7 + p1) 3))) rfl (some (.int v20)) rfl (some (.int v24)) rfl
def qG_walkAll_2 (S : Nat) (xs : Nat → Int32) (I : zI) (C : zC) (Y : Nat → Int32) (Γ : Nat → zG) (D : zD) (O : Nat → Int32) (M : zM) (ou : Nat → Int64) (od : Nat → UInt64) (j : Nat) (g : Nat) (y : (Option Value ⊕ String) × px_H) (s : zG × Int32) : Prop := ∀ (u2 : Option Value) (hu2 : px_cz u2 = true) (u3 : Option Value) (hu3 : px_cz u3 = true), Ev S xs 255 2 [some (.ref g), some (.int s.2), u2, u3] [] (zH I C Y (gup Γ g s.1) D O M ou od j) y
def qG_walkAll_19 (S : Nat) (xs : Nat → Int32) (I : zI) (C : zC) (Y : Nat → Int32) (Γ : Nat → zG) (D : zD) (O : Nat → Int32) (M : zM) (ou : Nat → Int64) (od : Nat → UInt64) (j : Nat) (g : Nat) (a1 : Int32) (p2 : Nat) (y : (Option Value ⊕ String) × px_H) (s : zG × Int32) : Prop := Ev S xs 255 19 [some (.ref g), some (.int a1), some (.ref (g + (7 + p2))), some (.int s.2)] [] (zH I C Y (gup Γ g s.1) D O M ou od j) y
set_option maxRecDepth 4000 in
theorem rG_walkAll_b19 {S : Nat} {xs : Nat → Int32} {I : zI} {C : zC} {Y : Nat → Int32} {Γ : Nat → zG} {D : zD} {O : Nat → Int32} {M : zM} {ou : Nat → Int64} {od : Nat → UInt64} {j : Nat} {g : Nat} {a1 : Int32} {p2 : Nat} {y : (Option Value ⊕ String) × px_H} {s : zG × Int32} {x : (zG × Int32) ⊕ ((zG × Int32) ⊕ (zG))} (hg : isG g) (hp2 : p2 < 10) (hx : fG_walkAll_b19 a1 p2 s.1 s.2 = some x) (hM : (Sum.elim (qG_walkAll_19 S xs I C Y Γ D O M ou od j g a1 p2 y) (Sum.elim (qG_walkAll_2 S xs I C Y Γ D O M ou od j g y) (fun X : zG => y = (((.inl none), (zH I C Y (gup Γ g X) D O M ou od j)) : (Option Value ⊕ String) × px_H)))) x) : qG_walkAll_19 S xs I C Y Γ D O M ou od j g a1 p2 y s := by
  obtain ⟨G, a3⟩ := s
  have hk : pt_mt[255]? = some pt_r255 := rfl
  unfold fG_walkAll_b19 at hx
  try dsimp only at hx
  refine ev_ls (L' := [some (.ref g), some (.int a1), some (.ref (g + (7 + p2))), some (.int a3)]) (st' := [.int a3]) (pc' := 20) hk (.iload_n 3) 1 rfl rfl rfl rfl ?_
  refine ev_op (st' := [.int 10, .int a3]) (pc' := 22) hk (.bipush 10) 2 rfl rfl rfl ?_
  refine ev_d2 77 25 hk rfl rfl rfl rfl (px_cge hx (fun hc hx => ?_) (fun hc hx => ?_))
  · refine ev_ls (L' := [some (.ref g), some (.int (a1 + 1)), some (.ref (g + (7 + p2))), some (.int a3)]) (st' := []) (pc' := 80) hk (.iinc 1 1) 3 rfl rfl rfl rfl ?_
    refine ev_jp (pc' := 2) (st' := []) hk (.goto (-78)) 3 rfl rfl rfl rfl rfl ?_
    cases hx
    exact hM (some (.ref (g + (7 + p2)))) rfl (some (.int a3)) rfl
  · refine ev_ls (L' := [some (.ref g), some (.int a1), some (.ref (g + (7 + p2))), some (.int a3)]) (st' := [.ref (g + (7 + p2))]) (pc' := 26) hk (.aload_n 2) 1 rfl rfl rfl rfl ?_
    refine ev_gf (.int (gF G (7 + p2) 6)) 29 hk rfl rfl (lk_spot hg hp2 gup_same) rfl rfl ?_
    refine ev_d1 77 32 hk rfl rfl rfl rfl (px_cle hx (fun hc hx => ?_) (fun hc hx => ?_))
    · refine ev_ls (L' := [some (.ref g), some (.int (a1 + 1)), some (.ref (g + (7 + p2))), some (.int a3)]) (st' := []) (pc' := 80) hk (.iinc 1 1) 3 rfl rfl rfl rfl ?_
      refine ev_jp (pc' := 2) (st' := []) hk (.goto (-78)) 3 rfl rfl rfl rfl rfl ?_
      cases hx
      exact hM (some (.ref (g + (7 + p2)))) rfl (some (.int a3)) rfl
    · refine ev_ls (L' := [some (.ref g), some (.int a1), some (.ref (g + (7 + p2))), some (.int a3)]) (st' := [.ref g]) (pc' := 33) hk (.aload_n 0) 1 rfl rfl rfl rfl ?_
      refine ev_ls (L' := [some (.ref g), some (.int a1), some (.ref (g + (7 + p2))), some (.int a3)]) (st' := [.ref (g + (7 + p2)), .ref g]) (pc' := 34) hk (.aload_n 2) 1 rfl rfl rfl rfl ?_
      refine ev_ls (L' := [some (.ref g), some (.int a1), some (.ref (g + (7 + p2))), some (.int a3)]) (st' := [.ref (g + (7 + p2)), .ref (g + (7 + p2)), .ref g]) (pc' := 35) hk (.aload_n 2) 1 rfl rfl rfl rfl ?_
      refine ev_gf (.int (gF G (7 + p2) 5)) 38 hk rfl rfl (lk_spot hg hp2 gup_same) rfl rfl ?_
      obtain ⟨v10, hc11, hx⟩ := bnd_some hx
      refine ev_cv 251 2 [.int v10] 41 hk rfl rfl rfl rfl (lk_globe hg gup_same) rfl rfl rfl (rG_stepHindrance hg hp2 hc11) rfl rfl rfl rfl ?_
      refine ev_d1 66 44 hk rfl rfl rfl rfl (px_cne hx (fun hc hx => ?_) (fun hc hx => ?_))
      · refine ev_ls (L' := [some (.ref g), some (.int a1), some (.ref (g + (7 + p2))), some (.int a3)]) (st' := [.ref (g + (7 + p2))]) (pc' := 67) hk (.aload_n 2) 1 rfl rfl rfl rfl ?_
        refine ev_op (st' := [.int 0, .ref (g + (7 + p2))]) (pc' := 68) hk (.iconst 0) 1 rfl rfl rfl ?_
        obtain ⟨G12, hG12, hx⟩ := bnd_some hx
        have hG12 := Option.some.inj hG12
        refine ev_pf 71 hk rfl rfl (lk_spot hg hp2 gup_same) rfl rfl rfl (sf_6_6 hg hp2 gup_same hG12 gup_gup) rfl ?_
        refine ev_ls (L' := [some (.ref g), some (.int a1), some (.ref (g + (7 + p2))), some (.int (a3 + 1))]) (st' := []) (pc' := 74) hk (.iinc 3 1) 3 rfl rfl rfl rfl ?_
        refine ev_jp (pc' := 19) (st' := []) hk (.goto (-55)) 3 rfl rfl rfl rfl rfl ?_
        cases hx
        exact hM
      · refine ev_ls (L' := [some (.ref g), some (.int a1), some (.ref (g + (7 + p2))), some (.int a3)]) (st' := [.ref g]) (pc' := 45) hk (.aload_n 0) 1 rfl rfl rfl rfl ?_
        refine ev_ls (L' := [some (.ref g), some (.int a1), some (.ref (g + (7 + p2))), some (.int a3)]) (st' := [.ref (g + (7 + p2)), .ref g]) (pc' := 46) hk (.aload_n 2) 1 rfl rfl rfl rfl ?_
        refine ev_ls (L' := [some (.ref g), some (.int a1), some (.ref (g + (7 + p2))), some (.int a3)]) (st' := [.ref (g + (7 + p2)), .ref (g + (7 + p2)), .ref g]) (pc' := 47) hk (.aload_n 2) 1 rfl rfl rfl rfl ?_
        refine ev_gf (.int (gF G (7 + p2) 5)) 50 hk rfl rfl (lk_spot hg hp2 gup_same) rfl rfl ?_
        obtain ⟨G13, hc14, hx⟩ := bnd_some hx
        refine ev_cv 239 2 [] 53 hk rfl rfl rfl rfl (lk_globe hg gup_same) rfl rfl rfl (rG_makeStep hg hp2 hc14) rfl rfl rfl rfl ?_
        refine ev_ls (L' := [some (.ref g), some (.int a1), some (.ref (g + (7 + p2))), some (.int a3)]) (st' := [.ref (g + (7 + p2))]) (pc' := 54) hk (.aload_n 2) 1 rfl rfl rfl rfl ?_
        refine ev_op (st' := [.ref (g + (7 + p2)), .ref (g + (7 + p2))]) (pc' := 55) hk (.dup) 1 rfl rfl rfl ?_
        refine ev_gf (.int (gF G13 (7 + p2) 6)) 58 hk rfl rfl (lk_spot hg hp2 gup_same) rfl rfl ?_
        refine ev_op (st' := [.int 1, .int (gF G13 (7 + p2) 6), .ref (g + (7 + p2))]) (pc' := 59) hk (.iconst 1) 1 rfl rfl rfl ?_
        refine ev_op (st' := [.int ((gF G13 (7 + p2) 6) - 1), .ref (g + (7 + p2))]) (pc' := 60) hk (.isub) 1 rfl rfl rfl ?_
        obtain ⟨G15, hG15, hx⟩ := bnd_some hx
        have hG15 := Option.some.inj hG15
        refine ev_pf 63 hk rfl rfl (lk_spot hg hp2 gup_same) rfl rfl rfl (sf_6_6 hg hp2 gup_same hG15 gup_gup) rfl ?_
        refine ev_jp (pc' := 71) (st' := []) hk (.goto 8) 3 rfl rfl rfl rfl rfl ?_
        refine ev_ls (L' := [some (.ref g), some (.int a1), some (.ref (g + (7 + p2))), some (.int (a3 + 1))]) (st' := []) (pc' := 74) hk (.iinc 3 1) 3 rfl rfl rfl rfl ?_
        refine ev_jp (pc' := 19) (st' := []) hk (.goto (-55)) 3 rfl rfl rfl rfl rfl ?_
        cases hx
        exact hM
set_option maxRecDepth 4000 in
theorem rG_walkAll_b2 {S : Nat} {xs : Nat → Int32} {I : zI} {C : zC} {Y : Nat → Int32} {Γ : Nat → zG} {D : zD} {O : Nat → Int32} {M : zM} {ou : Nat → Int64} {od : Nat → UInt64} {j : Nat} {g : Nat}  {y : (Option Value ⊕ String) × px_H} {s : zG × Int32} {x : (zG × Int32) ⊕ (zG)} (hg : isG g) (hx : fG_walkAll_b2 s.1 s.2 = some x) (hM : (Sum.elim (qG_walkAll_2 S xs I C Y Γ D O M ou od j g y) (fun X : zG => y = (((.inl none), (zH I C Y (gup Γ g X) D O M ou od j)) : (Option Value ⊕ String) × px_H))) x) : qG_walkAll_2 S xs I C Y Γ D O M ou od j g y s := by
  obtain ⟨G, a1⟩ := s
  intro u2 hu2 u3 hu3
  have hk : pt_mt[255]? = some pt_r255 := rfl
  unfold fG_walkAll_b2 at hx
  try dsimp only at hx
  refine ev_ls (L' := [some (.ref g), some (.int a1), u2, u3]) (st' := [.int a1]) (pc' := 3) hk (.iload_n 1) 1 rfl rfl rfl rfl ?_
  refine ev_ls (L' := [some (.ref g), some (.int a1), u2, u3]) (st' := [.ref g, .int a1]) (pc' := 4) hk (.aload_n 0) 1 rfl rfl rfl rfl ?_
  refine ev_gf (.int (gF G 0 4)) 7 hk rfl rfl (lk_globe hg gup_same) rfl rfl ?_
  refine ev_d2 83 10 hk rfl rfl rfl rfl (px_cge hx (fun hc hx => ?_) (fun hc hx => ?_))
  · cases hx
    obtain rfl := hM
    exact ev_retv hk rfl rfl
  · refine ev_ls (L' := [some (.ref g), some (.int a1), u2, u3]) (st' := [.ref g]) (pc' := 11) hk (.aload_n 0) 1 rfl rfl rfl rfl ?_
    refine ev_gf (.ref (g + 6)) 14 hk rfl rfl (lk_globe hg gup_same) rfl rfl ?_
    refine ev_ls (L' := [some (.ref g), some (.int a1), u2, u3]) (st' := [.int a1, .ref (g + 6)]) (pc' := 15) hk (.iload_n 1) 1 rfl rfl rfl rfl ?_
    obtain ⟨p9, hp9, hx⟩ := bnd_some hx
    have hpp9 := rix_lt hp9
    refine ev_aal (g + (7 + p9)) hp9 16 hk rfl (lk_spots hg gup_same) (by decide) (lk_sp hpp9) rfl ?_
    refine ev_ls (L' := [some (.ref g), some (.int a1), some (.ref (g + (7 + p9))), u3]) (st' := []) (pc' := 17) hk (.astore_n 2) 1 rfl rfl rfl rfl ?_
    refine ev_op (st' := [.int 0]) (pc' := 18) hk (.iconst 0) 1 rfl rfl rfl ?_
    refine ev_ls (L' := [some (.ref g), some (.int a1), some (.ref (g + (7 + p9))), some (.int 0)]) (st' := []) (pc' := 19) hk (.istore_n 3) 1 rfl rfl rfl rfl ?_
    exact ev_iter (qG_walkAll_19 S xs I C Y Γ D O M ou od j g a1 p9 _) (Sum.elim (qG_walkAll_2 S xs I C Y Γ D O M ou od j g y) (fun X : zG => y = (((.inl none), (zH I C Y (gup Γ g X) D O M ou od j)) : (Option Value ⊕ String) × px_H))) (fun s x hb hM => rG_walkAll_b19 hg hpp9 hb hM) fu _ _ hx hM 
set_option maxRecDepth 2000 in
theorem rG_walkAll {S : Nat} {xs : Nat → Int32} {I : zI} {C : zC} {Y : Nat → Int32} {Γ : Nat → zG} {D : zD} {O : Nat → Int32} {M : zM} {ou : Nat → Int64} {od : Nat → UInt64} {j : Nat} {g : Nat} {G : zG}  {X : zG}  (hg : isG g) (hx : fG_walkAll G = some X) : Ev S xs 255 0 [some (.ref g), none, none, none] [] (zH I C Y (gup Γ g G) D O M ou od j) (((.inl none), (zH I C Y (gup Γ g X) D O M ou od j)) : (Option Value ⊕ String) × px_H) := by
  generalize hM : (((.inl none), (zH I C Y (gup Γ g X) D O M ou od j)) : (Option Value ⊕ String) × px_H) = y
  replace hM := hM.symm
  have hk : pt_mt[255]? = some pt_r255 := rfl
  unfold fG_walkAll at hx
  refine ev_op (st' := [.int 0]) (pc' := 1) hk (.iconst 0) 1 rfl rfl rfl ?_
  refine ev_ls (L' := [some (.ref g), some (.int 0), none, none]) (st' := []) (pc' := 2) hk (.istore_n 1) 1 rfl rfl rfl rfl ?_
  exact ev_iter (qG_walkAll_2 S xs I C Y Γ D O M ou od j g _) (fun X : zG => y = (((.inl none), (zH I C Y (gup Γ g X) D O M ou od j)) : (Option Value ⊕ String) × px_H)) (fun s x hb hM => rG_walkAll_b2 hg hb hM) fu _ _ hx hM none rfl none rfl
set_option maxRecDepth 2000 in
theorem rG_isWearing {S : Nat} {xs : Nat → Int32} {I : zI} {C : zC} {Y : Nat → Int32} {Γ : Nat → zG} {D : zD} {O : Nat → Int32} {M : zM} {ou : Nat → Int64} {od : Nat → UInt64} {j : Nat} {a0 : Int32} {X : Bool}   (hx : fG_isWearing a0 = X) : Ev S xs 229 0 [some (.int a0)] [] (zH I C Y Γ D O M ou od j) (((.inl (some (.int (b2i X)))), (zH I C Y Γ D O M ou od j)) : (Option Value ⊕ String) × px_H) := by
  generalize hM : (((.inl (some (.int (b2i X)))), (zH I C Y Γ D O M ou od j)) : (Option Value ⊕ String) × px_H) = y
  replace hM := hM.symm
  have hk : pt_mt[229]? = some pt_r229 := rfl
  unfold fG_isWearing at hx
  refine ev_ls (L' := [some (.int a0)]) (st' := [.int a0]) (pc' := 1) hk (.iload_n 0) 1 rfl rfl rfl rfl ?_
  refine ev_op (st' := [.int 6, .int a0]) (pc' := 3) hk (.bipush 6) 2 rfl rfl rfl ?_
  refine ev_rem 4 hk rfl (by decide) rfl ?_
  refine ev_d1 11 7 hk rfl rfl rfl rfl (px_cne hx (fun hc hx => ?_) (fun hc hx => ?_))
  · refine ev_op (st' := [.int 0]) (pc' := 12) hk (.iconst 0) 1 rfl rfl rfl ?_
    cases hx
    obtain rfl := hM
    exact ev_retZ false rfl hk rfl rfl
  · refine ev_op (st' := [.int 1]) (pc' := 8) hk (.iconst 1) 1 rfl rfl rfl ?_
    refine ev_jp (pc' := 12) (st' := [.int 1]) hk (.goto 4) 3 rfl rfl rfl rfl rfl ?_
    cases hx
    obtain rfl := hM
    exact ev_retZ true rfl hk rfl rfl
set_option maxRecDepth 4000 in
theorem rC_strain_j63 {S : Nat} {xs : Nat → Int32} {I : zI} {C : zC} {Y : Nat → Int32} {Γ : Nat → zG} {D : zD} {O : Nat → Int32} {M : zM} {ou : Nat → Int64} {od : Nat → UInt64} {j : Nat} {g : Nat} {G : zG} {a1 : Int32} {a2 : Int32} {a0t : Bool} {a1t : Bool} {y : (Option Value ⊕ String) × px_H} {x : Int32} (hg : isG g) (hx : fC_strain_j63 G a1 a2 a0t a1t = some x) (hM : (fun X : Int32 => y = (((.inl (some (.int X))), (zH I C Y (gup Γ g G) D O M ou od j)) : (Option Value ⊕ String) × px_H)) x) (u3 : Option Value) (hu3 : px_cz u3 = true) : Ev S xs 13 63 [some (.ref (g + 1)), some (.int a1), some (.int a2), u3, none] [.int (b2i a0t), .int (b2i a1t)] (zH I C Y (gup Γ g G) D O M ou od j) y := by
  have hk : pt_mt[13]? = some pt_r13 := rfl
  unfold fC_strain_j63 at hx
  refine ev_op (st' := [.int ((b2i a1t) + (b2i a0t))]) (pc' := 64) hk (.iadd) 1 rfl rfl rfl ?_
  refine ev_ls (L' := [some (.ref (g + 1)), some (.int a1), some (.int a2), u3, some (.int ((b2i a1t) + (b2i a0t)))]) (st' := []) (pc' := 66) hk (.istore 4) 2 rfl rfl (congrArg (Option.map (fun L => (L, []))) (px_st1_v (i := 3) (L := [some (.ref (g + 1)), some (.int a1), some (.int a2), u3, none]) hu3 rfl rfl rfl)) rfl ?_
  refine ev_ls (L' := [some (.ref (g + 1)), some (.int a1), some (.int a2), u3, some (.int ((b2i a1t) + (b2i a0t)))]) (st' := [.ref (g + 1)]) (pc' := 67) hk (.aload_n 0) 1 rfl rfl rfl rfl ?_
  refine ev_gf (.ref (g + 2)) 70 hk rfl rfl (lk_cloth hg gup_same) rfl rfl ?_
  refine ev_ls (L' := [some (.ref (g + 1)), some (.int a1), some (.int a2), u3, some (.int ((b2i a1t) + (b2i a0t)))]) (st' := [.int a2, .ref (g + 2)]) (pc' := 71) hk (.iload_n 2) 1 rfl rfl rfl rfl ?_
  obtain ⟨v14, hv14, hx⟩ := bnd_some hx
  refine ev_ial hv14 72 hk rfl (lk_a2 hg gup_same) rfl ?_
  refine ev_ls (L' := [some (.ref (g + 1)), some (.int a1), some (.int a2), u3, some (.int ((b2i a1t) + (b2i a0t)))]) (st' := [.ref (g + 1), .int v14]) (pc' := 73) hk (.aload_n 0) 1 rfl rfl rfl rfl ?_
  refine ev_gf (.ref (g + 2)) 76 hk rfl rfl (lk_cloth hg gup_same) rfl rfl ?_
  refine ev_ls (L' := [some (.ref (g + 1)), some (.int a1), some (.int a2), u3, some (.int ((b2i a1t) + (b2i a0t)))]) (st' := [.int a1, .ref (g + 2), .int v14]) (pc' := 77) hk (.iload_n 1) 1 rfl rfl rfl rfl ?_
  obtain ⟨v15, hv15, hx⟩ := bnd_some hx
  refine ev_ial hv15 78 hk rfl (lk_a2 hg gup_same) rfl ?_
  refine ev_op (st' := [.int (v14 + v15)]) (pc' := 79) hk (.iadd) 1 rfl rfl rfl ?_
  refine ev_op (st' := [.int 60, .int (v14 + v15)]) (pc' := 81) hk (.bipush 60) 2 rfl rfl rfl ?_
  refine ev_div 82 hk rfl (by decide) rfl ?_
  refine ev_ls (L' := [some (.ref (g + 1)), some (.int a1), some (.int a2), u3, some (.int ((b2i a1t) + (b2i a0t)))]) (st' := [.int ((b2i a1t) + (b2i a0t)), .int ((v14 + v15) / 60)]) (pc' := 84) hk (.iload 4) 2 rfl rfl rfl rfl ?_
  refine ev_op (st' := [.int (((v14 + v15) / 60) + ((b2i a1t) + (b2i a0t)))]) (pc' := 85) hk (.iadd) 1 rfl rfl rfl ?_
  cases hx
  obtain rfl := hM
  exact ev_retI hk rfl rfl
set_option maxRecDepth 4000 in
theorem rC_strain_j49 {S : Nat} {xs : Nat → Int32} {I : zI} {C : zC} {Y : Nat → Int32} {Γ : Nat → zG} {D : zD} {O : Nat → Int32} {M : zM} {ou : Nat → Int64} {od : Nat → UInt64} {j : Nat} {g : Nat} {G : zG} {a1 : Int32} {a2 : Int32} {a3 : Int32} {a0t : Bool} {y : (Option Value ⊕ String) × px_H} {x : Int32} (hg : isG g) (hx : fC_strain_j49 G a1 a2 a3 a0t = some x) (hM : (fun X : Int32 => y = (((.inl (some (.int X))), (zH I C Y (gup Γ g G) D O M ou od j)) : (Option Value ⊕ String) × px_H)) x)  : Ev S xs 13 49 [some (.ref (g + 1)), some (.int a1), some (.int a2), some (.int a3), none] [.int (b2i a0t)] (zH I C Y (gup Γ g G) D O M ou od j) y := by
  have hk : pt_mt[13]? = some pt_r13 := rfl
  unfold fC_strain_j49 at hx
  refine ev_ls (L' := [some (.ref (g + 1)), some (.int a1), some (.int a2), some (.int a3), none]) (st' := [.ref (g + 1), .int (b2i a0t)]) (pc' := 50) hk (.aload_n 0) 1 rfl rfl rfl rfl ?_
  refine ev_gf (.ref (g + 4)) 53 hk rfl rfl (lk_cloth hg gup_same) rfl rfl ?_
  refine ev_ls (L' := [some (.ref (g + 1)), some (.int a1), some (.int a2), some (.int a3), none]) (st' := [.int a3, .ref (g + 4), .int (b2i a0t)]) (pc' := 54) hk (.iload_n 3) 1 rfl rfl rfl rfl ?_
  obtain ⟨v13, hv13, hx⟩ := bnd_some hx
  refine ev_ial hv13 55 hk rfl (lk_a4 hg gup_same) rfl ?_
  refine ev_d1 62 58 hk rfl rfl rfl rfl (px_cne hx (fun hc hx => ?_) (fun hc hx => ?_))
  · refine ev_op (st' := [.int 0, .int (b2i a0t)]) (pc' := 63) hk (.iconst 0) 1 rfl rfl rfl ?_
    exact rC_strain_j63 hg hx hM (some (.int a3)) rfl
  · refine ev_op (st' := [.int 1, .int (b2i a0t)]) (pc' := 59) hk (.iconst 1) 1 rfl rfl rfl ?_
    refine ev_jp (pc' := 63) (st' := [.int 1, .int (b2i a0t)]) hk (.goto 4) 3 rfl rfl rfl rfl rfl ?_
    exact rC_strain_j63 hg hx hM (some (.int a3)) rfl
set_option maxRecDepth 4000 in
theorem rC_strain_j34 {S : Nat} {xs : Nat → Int32} {I : zI} {C : zC} {Y : Nat → Int32} {Γ : Nat → zG} {D : zD} {O : Nat → Int32} {M : zM} {ou : Nat → Int64} {od : Nat → UInt64} {j : Nat} {g : Nat} {G : zG} {a1 : Int32} {a2 : Int32} {a0t : Int32} {y : (Option Value ⊕ String) × px_H} {x : Int32} (hg : isG g) (hx : fC_strain_j34 G a1 a2 a0t = some x) (hM : (fun X : Int32 => y = (((.inl (some (.int X))), (zH I C Y (gup Γ g G) D O M ou od j)) : (Option Value ⊕ String) × px_H)) x)  : Ev S xs 13 34 [some (.ref (g + 1)), some (.int a1), some (.int a2), none, none] [.int a0t] (zH I C Y (gup Γ g G) D O M ou od j) y := by
  have hk : pt_mt[13]? = some pt_r13 := rfl
  unfold fC_strain_j34 at hx
  refine ev_ls (L' := [some (.ref (g + 1)), some (.int a1), some (.int a2), some (.int a0t), none]) (st' := []) (pc' := 35) hk (.istore_n 3) 1 rfl rfl rfl rfl ?_
  refine ev_ls (L' := [some (.ref (g + 1)), some (.int a1), some (.int a2), some (.int a0t), none]) (st' := [.ref (g + 1)]) (pc' := 36) hk (.aload_n 0) 1 rfl rfl rfl rfl ?_
  refine ev_gf (.ref (g + 4)) 39 hk rfl rfl (lk_cloth hg gup_same) rfl rfl ?_
  refine ev_ls (L' := [some (.ref (g + 1)), some (.int a1), some (.int a2), some (.int a0t), none]) (st' := [.int a2, .ref (g + 4)]) (pc' := 40) hk (.iload_n 2) 1 rfl rfl rfl rfl ?_
  obtain ⟨v12, hv12, hx⟩ := bnd_some hx
  refine ev_ial hv12 41 hk rfl (lk_a4 hg gup_same) rfl ?_
  refine ev_d1 48 44 hk rfl rfl rfl rfl (px_cne hx (fun hc hx => ?_) (fun hc hx => ?_))
  · refine ev_op (st' := [.int 0]) (pc' := 49) hk (.iconst 0) 1 rfl rfl rfl ?_
    exact rC_strain_j49 hg hx hM 
  · refine ev_op (st' := [.int 1]) (pc' := 45) hk (.iconst 1) 1 rfl rfl rfl ?_
    refine ev_jp (pc' := 49) (st' := [.int 1]) hk (.goto 4) 3 rfl rfl rfl rfl rfl ?_
    exact rC_strain_j49 hg hx hM 
set_option maxRecDepth 4000 in
theorem rC_strain_j16 {S : Nat} {xs : Nat → Int32} {I : zI} {C : zC} {Y : Nat → Int32} {Γ : Nat → zG} {D : zD} {O : Nat → Int32} {M : zM} {ou : Nat → Int64} {od : Nat → UInt64} {j : Nat} {g : Nat} {G : zG} {a1 : Int32} {a0t : Int32} {y : (Option Value ⊕ String) × px_H} {x : Int32} (hg : isG g) (hx : fC_strain_j16 G a1 a0t = some x) (hM : (fun X : Int32 => y = (((.inl (some (.int X))), (zH I C Y (gup Γ g G) D O M ou od j)) : (Option Value ⊕ String) × px_H)) x)  : Ev S xs 13 16 [some (.ref (g + 1)), some (.int a1), none, none, none] [.int a0t] (zH I C Y (gup Γ g G) D O M ou od j) y := by
  have hk : pt_mt[13]? = some pt_r13 := rfl
  unfold fC_strain_j16 at hx
  refine ev_ls (L' := [some (.ref (g + 1)), some (.int a1), some (.int a0t), none, none]) (st' := []) (pc' := 17) hk (.istore_n 2) 1 rfl rfl rfl rfl ?_
  refine ev_ls (L' := [some (.ref (g + 1)), some (.int a1), some (.int a0t), none, none]) (st' := [.int a1]) (pc' := 18) hk (.iload_n 1) 1 rfl rfl rfl rfl ?_
  refine ev_ls (L' := [some (.ref (g + 1)), some (.int a1), some (.int a0t), none, none]) (st' := [.ref (g + 1), .int a1]) (pc' := 19) hk (.aload_n 0) 1 rfl rfl rfl rfl ?_
  refine ev_gf (.int (gF G 1 0)) 22 hk rfl rfl (lk_cloth hg gup_same) rfl rfl ?_
  refine ev_op (st' := [.int 1, .int (gF G 1 0), .int a1]) (pc' := 23) hk (.iconst 1) 1 rfl rfl rfl ?_
  refine ev_op (st' := [.int ((gF G 1 0) - 1), .int a1]) (pc' := 24) hk (.isub) 1 rfl rfl rfl ?_
  refine ev_d2 31 27 hk rfl rfl rfl rfl (px_cne hx (fun hc hx => ?_) (fun hc hx => ?_))
  · refine ev_ls (L' := [some (.ref (g + 1)), some (.int a1), some (.int a0t), none, none]) (st' := [.int a1]) (pc' := 32) hk (.iload_n 1) 1 rfl rfl rfl rfl ?_
    refine ev_op (st' := [.int 1, .int a1]) (pc' := 33) hk (.iconst 1) 1 rfl rfl rfl ?_
    refine ev_op (st' := [.int (a1 + 1)]) (pc' := 34) hk (.iadd) 1 rfl rfl rfl ?_
    exact rC_strain_j34 hg hx hM 
  · refine ev_op (st' := [.int 0]) (pc' := 28) hk (.iconst 0) 1 rfl rfl rfl ?_
    refine ev_jp (pc' := 34) (st' := [.int 0]) hk (.goto 6) 3 rfl rfl rfl rfl rfl ?_
    exact rC_strain_j34 hg hx hM 
set_option maxRecDepth 2000 in
theorem rC_strain {S : Nat} {xs : Nat → Int32} {I : zI} {C : zC} {Y : Nat → Int32} {Γ : Nat → zG} {D : zD} {O : Nat → Int32} {M : zM} {ou : Nat → Int64} {od : Nat → UInt64} {j : Nat} {g : Nat} {G : zG} {a1 : Int32} {X : Int32}  (hg : isG g) (hx : fC_strain G a1 = some X) : Ev S xs 13 0 [some (.ref (g + 1)), some (.int a1), none, none, none] [] (zH I C Y (gup Γ g G) D O M ou od j) (((.inl (some (.int X))), (zH I C Y (gup Γ g G) D O M ou od j)) : (Option Value ⊕ String) × px_H) := by
  generalize hM : (((.inl (some (.int X))), (zH I C Y (gup Γ g G) D O M ou od j)) : (Option Value ⊕ String) × px_H) = y
  replace hM := hM.symm
  have hk : pt_mt[13]? = some pt_r13 := rfl
  unfold fC_strain at hx
  refine ev_ls (L' := [some (.ref (g + 1)), some (.int a1), none, none, none]) (st' := [.int a1]) (pc' := 1) hk (.iload_n 1) 1 rfl rfl rfl rfl ?_
  refine ev_d1 13 4 hk rfl rfl rfl rfl (px_cne hx (fun hc hx => ?_) (fun hc hx => ?_))
  · refine ev_ls (L' := [some (.ref (g + 1)), some (.int a1), none, none, none]) (st' := [.int a1]) (pc' := 14) hk (.iload_n 1) 1 rfl rfl rfl rfl ?_
    refine ev_op (st' := [.int 1, .int a1]) (pc' := 15) hk (.iconst 1) 1 rfl rfl rfl ?_
    refine ev_op (st' := [.int (a1 - 1)]) (pc' := 16) hk (.isub) 1 rfl rfl rfl ?_
    exact rC_strain_j16 hg hx hM 
  · refine ev_ls (L' := [some (.ref (g + 1)), some (.int a1), none, none, none]) (st' := [.ref (g + 1)]) (pc' := 5) hk (.aload_n 0) 1 rfl rfl rfl rfl ?_
    refine ev_gf (.int (gF G 1 0)) 8 hk rfl rfl (lk_cloth hg gup_same) rfl rfl ?_
    refine ev_op (st' := [.int 1, .int (gF G 1 0)]) (pc' := 9) hk (.iconst 1) 1 rfl rfl rfl ?_
    refine ev_op (st' := [.int ((gF G 1 0) - 1)]) (pc' := 10) hk (.isub) 1 rfl rfl rfl ?_
    refine ev_jp (pc' := 16) (st' := [.int ((gF G 1 0) - 1)]) hk (.goto 6) 3 rfl rfl rfl rfl rfl ?_
    exact rC_strain_j16 hg hx hM 
set_option maxRecDepth 2000 in
theorem rJ_max_7cf53 {S : Nat} {xs : Nat → Int32} {I : zI} {C : zC} {Y : Nat → Int32} {Γ : Nat → zG} {D : zD} {O : Nat → Int32} {M : zM} {ou : Nat → Int64} {od : Nat → UInt64} {j : Nat} {a0 : Int32} {a1 : Int32} {X : Int32}   (hx : fJ_max_7cf53 a0 a1 = X) : Ev S xs 3 0 [some (.int a0), some (.int a1)] [] (zH I C Y Γ D O M ou od j) (((.inl (some (.int X))), (zH I C Y Γ D O M ou od j)) : (Option Value ⊕ String) × px_H) := by
  generalize hM : (((.inl (some (.int X))), (zH I C Y Γ D O M ou od j)) : (Option Value ⊕ String) × px_H) = y
  replace hM := hM.symm
  have hk : pt_mt[3]? = some pt_r3 := rfl
  unfold fJ_max_7cf53 at hx
  refine ev_ls (L' := [some (.int a0), some (.int a1)]) (st' := [.int a0]) (pc' := 1) hk (.iload_n 0) 1 rfl rfl rfl rfl ?_
  refine ev_ls (L' := [some (.int a0), some (.int a1)]) (st' := [.int a1, .int a0]) (pc' := 2) hk (.iload_n 1) 1 rfl rfl rfl rfl ?_
  refine ev_d2 9 5 hk rfl rfl rfl rfl (px_clt hx (fun hc hx => ?_) (fun hc hx => ?_))
  · refine ev_ls (L' := [some (.int a0), some (.int a1)]) (st' := [.int a1]) (pc' := 10) hk (.iload_n 1) 1 rfl rfl rfl rfl ?_
    cases hx
    obtain rfl := hM
    exact ev_retI hk rfl rfl
  · refine ev_ls (L' := [some (.int a0), some (.int a1)]) (st' := [.int a0]) (pc' := 6) hk (.iload_n 0) 1 rfl rfl rfl rfl ?_
    refine ev_jp (pc' := 10) (st' := [.int a0]) hk (.goto 4) 3 rfl rfl rfl rfl rfl ?_
    cases hx
    obtain rfl := hM
    exact ev_retI hk rfl rfl
set_option maxRecDepth 2000 in
theorem rC_wear {S : Nat} {xs : Nat → Int32} {I : zI} {C : zC} {Y : Nat → Int32} {Γ : Nat → zG} {D : zD} {O : Nat → Int32} {M : zM} {ou : Nat → Int64} {od : Nat → UInt64} {j : Nat} {g : Nat} {G : zG} {a1 : Int32} {X : Bool × zG}  (hg : isG g) (hx : fC_wear G a1 = some X) : Ev S xs 14 0 [some (.ref (g + 1)), some (.int a1)] [] (zH I C Y (gup Γ g G) D O M ou od j) (((.inl (some (.int (b2i X.1)))), (zH I C Y (gup Γ g X.2) D O M ou od j)) : (Option Value ⊕ String) × px_H) := by
  generalize hM : (((.inl (some (.int (b2i X.1)))), (zH I C Y (gup Γ g X.2) D O M ou od j)) : (Option Value ⊕ String) × px_H) = y
  replace hM := hM.symm
  have hk : pt_mt[14]? = some pt_r14 := rfl
  unfold fC_wear at hx
  refine ev_ls (L' := [some (.ref (g + 1)), some (.int a1)]) (st' := [.ref (g + 1)]) (pc' := 1) hk (.aload_n 0) 1 rfl rfl rfl rfl ?_
  refine ev_gf (.ref (g + 4)) 4 hk rfl rfl (lk_cloth hg gup_same) rfl rfl ?_
  refine ev_ls (L' := [some (.ref (g + 1)), some (.int a1)]) (st' := [.int a1, .ref (g + 4)]) (pc' := 5) hk (.iload_n 1) 1 rfl rfl rfl rfl ?_
  obtain ⟨v6, hv6, hx⟩ := bnd_some hx
  refine ev_ial hv6 6 hk rfl (lk_a4 hg gup_same) rfl ?_
  refine ev_d1 11 9 hk rfl rfl rfl rfl (px_cne hx (fun hc hx => ?_) (fun hc hx => ?_))
  · refine ev_ls (L' := [some (.ref (g + 1)), some (.int a1)]) (st' := [.ref (g + 1)]) (pc' := 12) hk (.aload_n 0) 1 rfl rfl rfl rfl ?_
    refine ev_gf (.ref (g + 4)) 15 hk rfl rfl (lk_cloth hg gup_same) rfl rfl ?_
    refine ev_ls (L' := [some (.ref (g + 1)), some (.int a1)]) (st' := [.int a1, .ref (g + 4)]) (pc' := 16) hk (.iload_n 1) 1 rfl rfl rfl rfl ?_
    refine ev_op (st' := [.int 0, .int a1, .ref (g + 4)]) (pc' := 17) hk (.iconst 0) 1 rfl rfl rfl ?_
    refine ev_ls (L' := [some (.ref (g + 1)), some (.int a1)]) (st' := [.ref (g + 1), .int 0, .int a1, .ref (g + 4)]) (pc' := 18) hk (.aload_n 0) 1 rfl rfl rfl rfl ?_
    refine ev_gf (.ref (g + 4)) 21 hk rfl rfl (lk_cloth hg gup_same) rfl rfl ?_
    refine ev_ls (L' := [some (.ref (g + 1)), some (.int a1)]) (st' := [.int a1, .ref (g + 4), .int 0, .int a1, .ref (g + 4)]) (pc' := 22) hk (.iload_n 1) 1 rfl rfl rfl rfl ?_
    obtain ⟨v7, hv7, hx⟩ := bnd_some hx
    refine ev_ial hv7 23 hk rfl (lk_a4 hg gup_same) rfl ?_
    refine ev_ls (L' := [some (.ref (g + 1)), some (.int a1)]) (st' := [.ref (g + 1), .int v7, .int 0, .int a1, .ref (g + 4)]) (pc' := 24) hk (.aload_n 0) 1 rfl rfl rfl rfl ?_
    refine ev_ls (L' := [some (.ref (g + 1)), some (.int a1)]) (st' := [.int a1, .ref (g + 1), .int v7, .int 0, .int a1, .ref (g + 4)]) (pc' := 25) hk (.iload_n 1) 1 rfl rfl rfl rfl ?_
    obtain ⟨v8, hc9, hx⟩ := bnd_some hx
    refine ev_cv 13 1 [.int v8, .int v7, .int 0, .int a1, .ref (g + 4)] 28 hk rfl rfl rfl rfl (lk_cloth hg gup_same) rfl rfl rfl (rC_strain hg hc9) rfl rfl rfl rfl ?_
    refine ev_op (st' := [.int (v7 - v8), .int 0, .int a1, .ref (g + 4)]) (pc' := 29) hk (.isub) 1 rfl rfl rfl ?_
    refine ev_cs 3 2 [.int (fJ_max_7cf53 0 (v7 - v8)), .int a1, .ref (g + 4)] 32 hk rfl rfl (by decide) rfl rfl rfl (rJ_max_7cf53 rfl) rfl rfl rfl rfl ?_
    obtain ⟨A10, hA10, hx⟩ := bnd_some hx
    obtain ⟨G11, hG11, hx⟩ := bnd_some hx
    have hG11 := Option.some.inj hG11
    refine ev_ias hA10 33 hk rfl (lk_a4 hg gup_same) (sa_g4 hg gup_same hG11 gup_gup) rfl ?_
    refine ev_ls (L' := [some (.ref (g + 1)), some (.int a1)]) (st' := [.ref (g + 1)]) (pc' := 34) hk (.aload_n 0) 1 rfl rfl rfl rfl ?_
    refine ev_gf (.ref (g + 4)) 37 hk rfl rfl (lk_cloth hg gup_same) rfl rfl ?_
    refine ev_ls (L' := [some (.ref (g + 1)), some (.int a1)]) (st' := [.int a1, .ref (g + 4)]) (pc' := 38) hk (.iload_n 1) 1 rfl rfl rfl rfl ?_
    obtain ⟨v12, hv12, hx⟩ := bnd_some hx
    refine ev_ial hv12 39 hk rfl (lk_a4 hg gup_same) rfl ?_
    refine ev_d1 46 42 hk rfl rfl rfl rfl (px_cne hx (fun hc hx => ?_) (fun hc hx => ?_))
    · refine ev_op (st' := [.int 0]) (pc' := 47) hk (.iconst 0) 1 rfl rfl rfl ?_
      cases hx
      obtain rfl := hM
      exact ev_retZ false rfl hk rfl rfl
    · refine ev_op (st' := [.int 1]) (pc' := 43) hk (.iconst 1) 1 rfl rfl rfl ?_
      refine ev_jp (pc' := 47) (st' := [.int 1]) hk (.goto 4) 3 rfl rfl rfl rfl rfl ?_
      cases hx
      obtain rfl := hM
      exact ev_retZ true rfl hk rfl rfl
  · refine ev_op (st' := [.int 0]) (pc' := 10) hk (.iconst 0) 1 rfl rfl rfl ?_
    cases hx
    obtain rfl := hM
    exact ev_retZ false rfl hk rfl rfl
set_option maxRecDepth 2000 in
theorem rL_crosses {S : Nat} {xs : Nat → Int32} {I : zI} {C : zC} {Y : Nat → Int32} {Γ : Nat → zG} {D : zD} {O : Nat → Int32} {M : zM} {ou : Nat → Int64} {od : Nat → UInt64} {j : Nat} {g : Nat} {G : zG} {p0 : Nat} {a1 : Int32} {X : Bool}  (hg : isG g) (hp0 : p0 < 8) (hx : fL_crosses G p0 a1 = X) : Ev S xs 281 0 [some (.ref (g + (18 + p0))), some (.int a1)] [] (zH I C Y (gup Γ g G) D O M ou od j) (((.inl (some (.int (b2i X)))), (zH I C Y (gup Γ g G) D O M ou od j)) : (Option Value ⊕ String) × px_H) := by
  generalize hM : (((.inl (some (.int (b2i X)))), (zH I C Y (gup Γ g G) D O M ou od j)) : (Option Value ⊕ String) × px_H) = y
  replace hM := hM.symm
  have hk : pt_mt[281]? = some pt_r281 := rfl
  unfold fL_crosses at hx
  refine ev_ls (L' := [some (.ref (g + (18 + p0))), some (.int a1)]) (st' := [.ref (g + (18 + p0))]) (pc' := 1) hk (.aload_n 0) 1 rfl rfl rfl rfl ?_
  refine ev_gf (.int (b2i (gB G (18 + p0)))) 4 hk rfl rfl (lk_label hg hp0 gup_same) rfl rfl ?_
  refine ev_d1 27 7 hk rfl rfl rfl rfl (px_bne hx (fun hc hx => ?_) (fun hc hx => ?_))
  · refine ev_op (st' := [.int 0]) (pc' := 28) hk (.iconst 0) 1 rfl rfl rfl ?_
    cases hx
    obtain rfl := hM
    exact ev_retZ false rfl hk rfl rfl
  · refine ev_ls (L' := [some (.ref (g + (18 + p0))), some (.int a1)]) (st' := [.ref (g + (18 + p0))]) (pc' := 8) hk (.aload_n 0) 1 rfl rfl rfl rfl ?_
    refine ev_gf (.int (gF G (18 + p0) 1)) 11 hk rfl rfl (lk_label hg hp0 gup_same) rfl rfl ?_
    refine ev_ls (L' := [some (.ref (g + (18 + p0))), some (.int a1)]) (st' := [.int a1, .int (gF G (18 + p0) 1)]) (pc' := 12) hk (.iload_n 1) 1 rfl rfl rfl rfl ?_
    refine ev_d2 27 15 hk rfl rfl rfl rfl (px_cge hx (fun hc hx => ?_) (fun hc hx => ?_))
    · refine ev_op (st' := [.int 0]) (pc' := 28) hk (.iconst 0) 1 rfl rfl rfl ?_
      cases hx
      obtain rfl := hM
      exact ev_retZ false rfl hk rfl rfl
    · refine ev_ls (L' := [some (.ref (g + (18 + p0))), some (.int a1)]) (st' := [.int a1]) (pc' := 16) hk (.iload_n 1) 1 rfl rfl rfl rfl ?_
      refine ev_ls (L' := [some (.ref (g + (18 + p0))), some (.int a1)]) (st' := [.ref (g + (18 + p0)), .int a1]) (pc' := 17) hk (.aload_n 0) 1 rfl rfl rfl rfl ?_
      refine ev_gf (.int (gF G (18 + p0) 2)) 20 hk rfl rfl (lk_label hg hp0 gup_same) rfl rfl ?_
      refine ev_d2 27 23 hk rfl rfl rfl rfl (px_cgt hx (fun hc hx => ?_) (fun hc hx => ?_))
      · refine ev_op (st' := [.int 0]) (pc' := 28) hk (.iconst 0) 1 rfl rfl rfl ?_
        cases hx
        obtain rfl := hM
        exact ev_retZ false rfl hk rfl rfl
      · refine ev_op (st' := [.int 1]) (pc' := 24) hk (.iconst 1) 1 rfl rfl rfl ?_
        refine ev_jp (pc' := 28) (st' := [.int 1]) hk (.goto 4) 3 rfl rfl rfl rfl rfl ?_
        cases hx
        obtain rfl := hM
        exact ev_retZ true rfl hk rfl rfl
def qG_tearLabels_4 (S : Nat) (xs : Nat → Int32) (I : zI) (C : zC) (Y : Nat → Int32) (Γ : Nat → zG) (D : zD) (O : Nat → Int32) (M : zM) (ou : Nat → Int64) (od : Nat → UInt64) (j : Nat) (g : Nat) (a1 : Int32) (y : (Option Value ⊕ String) × px_H) (s : zG × Int32 × Int32) : Prop := Ev S xs 253 4 [some (.ref g), some (.int a1), some (.int s.2.1), some (.int s.2.2)] [] (zH I C Y (gup Γ g s.1) D O M ou od j) y
set_option maxRecDepth 4000 in
theorem rG_tearLabels_b4 {S : Nat} {xs : Nat → Int32} {I : zI} {C : zC} {Y : Nat → Int32} {Γ : Nat → zG} {D : zD} {O : Nat → Int32} {M : zM} {ou : Nat → Int64} {od : Nat → UInt64} {j : Nat} {g : Nat} {a1 : Int32} {y : (Option Value ⊕ String) × px_H} {s : zG × Int32 × Int32} {x : (zG × Int32 × Int32) ⊕ (Int32 × zG)} (hg : isG g) (hx : fG_tearLabels_b4 a1 s.1 s.2.1 s.2.2 = some x) (hM : (Sum.elim (qG_tearLabels_4 S xs I C Y Γ D O M ou od j g a1 y) (fun X : Int32 × zG => y = (((.inl (some (.int X.1))), (zH I C Y (gup Γ g X.2) D O M ou od j)) : (Option Value ⊕ String) × px_H))) x) : qG_tearLabels_4 S xs I C Y Γ D O M ou od j g a1 y s := by
  obtain ⟨G, a2, a3⟩ := s
  have hk : pt_mt[253]? = some pt_r253 := rfl
  unfold fG_tearLabels_b4 at hx
  try dsimp only at hx
  refine ev_ls (L' := [some (.ref g), some (.int a1), some (.int a2), some (.int a3)]) (st' := [.int a3]) (pc' := 5) hk (.iload_n 3) 1 rfl rfl rfl rfl ?_
  refine ev_ls (L' := [some (.ref g), some (.int a1), some (.int a2), some (.int a3)]) (st' := [.ref g, .int a3]) (pc' := 6) hk (.aload_n 0) 1 rfl rfl rfl rfl ?_
  refine ev_gf (.int (gF G 0 6)) 9 hk rfl rfl (lk_globe hg gup_same) rfl rfl ?_
  refine ev_d2 44 12 hk rfl rfl rfl rfl (px_cge hx (fun hc hx => ?_) (fun hc hx => ?_))
  · refine ev_ls (L' := [some (.ref g), some (.int a1), some (.int a2), some (.int a3)]) (st' := [.int a2]) (pc' := 45) hk (.iload_n 2) 1 rfl rfl rfl rfl ?_
    cases hx
    obtain rfl := hM
    exact ev_retI hk rfl rfl
  · refine ev_ls (L' := [some (.ref g), some (.int a1), some (.int a2), some (.int a3)]) (st' := [.ref g]) (pc' := 13) hk (.aload_n 0) 1 rfl rfl rfl rfl ?_
    refine ev_gf (.ref (g + 17)) 16 hk rfl rfl (lk_globe hg gup_same) rfl rfl ?_
    refine ev_ls (L' := [some (.ref g), some (.int a1), some (.int a2), some (.int a3)]) (st' := [.int a3, .ref (g + 17)]) (pc' := 17) hk (.iload_n 3) 1 rfl rfl rfl rfl ?_
    obtain ⟨p7, hp7, hx⟩ := bnd_some hx
    have hpp7 := rix_lt hp7
    refine ev_aal (g + (18 + p7)) hp7 18 hk rfl (lk_labels hg gup_same) (by decide) (lk_la hpp7) rfl ?_
    refine ev_ls (L' := [some (.ref g), some (.int a1), some (.int a2), some (.int a3)]) (st' := [.int a1, .ref (g + (18 + p7))]) (pc' := 19) hk (.iload_n 1) 1 rfl rfl rfl rfl ?_
    refine ev_cv 281 1 [.int (b2i (fL_crosses G p7 a1))] 22 hk rfl rfl rfl rfl (lk_label hg hpp7 gup_same) rfl rfl rfl (rL_crosses hg hpp7 rfl) rfl rfl rfl rfl ?_
    refine ev_d1 38 25 hk rfl rfl rfl rfl (px_beq hx (fun hc hx => ?_) (fun hc hx => ?_))
    · refine ev_ls (L' := [some (.ref g), some (.int a1), some (.int a2), some (.int (a3 + 1))]) (st' := []) (pc' := 41) hk (.iinc 3 1) 3 rfl rfl rfl rfl ?_
      refine ev_jp (pc' := 4) (st' := []) hk (.goto (-37)) 3 rfl rfl rfl rfl rfl ?_
      cases hx
      exact hM
    · refine ev_ls (L' := [some (.ref g), some (.int a1), some (.int a2), some (.int a3)]) (st' := [.ref g]) (pc' := 26) hk (.aload_n 0) 1 rfl rfl rfl rfl ?_
      refine ev_gf (.ref (g + 17)) 29 hk rfl rfl (lk_globe hg gup_same) rfl rfl ?_
      refine ev_ls (L' := [some (.ref g), some (.int a1), some (.int a2), some (.int a3)]) (st' := [.int a3, .ref (g + 17)]) (pc' := 30) hk (.iload_n 3) 1 rfl rfl rfl rfl ?_
      obtain ⟨p8, hp8, hx⟩ := bnd_some hx
      have hpp8 := rix_lt hp8
      refine ev_aal (g + (18 + p8)) hp8 31 hk rfl (lk_labels hg gup_same) (by decide) (lk_la hpp8) rfl ?_
      refine ev_op (st' := [.int 1, .ref (g + (18 + p8))]) (pc' := 32) hk (.iconst 1) 1 rfl rfl rfl ?_
      obtain ⟨G9, hG9, hx⟩ := bnd_some hx
      have hG9 := Option.some.inj hG9
      refine ev_pf 35 hk rfl rfl (lk_label hg hpp8 gup_same) rfl rfl rfl (sf_4_3 hg hpp8 gup_same hG9 gup_gup) rfl ?_
      refine ev_ls (L' := [some (.ref g), some (.int a1), some (.int (a2 + 1)), some (.int a3)]) (st' := []) (pc' := 38) hk (.iinc 2 1) 3 rfl rfl rfl rfl ?_
      refine ev_ls (L' := [some (.ref g), some (.int a1), some (.int (a2 + 1)), some (.int (a3 + 1))]) (st' := []) (pc' := 41) hk (.iinc 3 1) 3 rfl rfl rfl rfl ?_
      refine ev_jp (pc' := 4) (st' := []) hk (.goto (-37)) 3 rfl rfl rfl rfl rfl ?_
      cases hx
      exact hM
set_option maxRecDepth 2000 in
theorem rG_tearLabels {S : Nat} {xs : Nat → Int32} {I : zI} {C : zC} {Y : Nat → Int32} {Γ : Nat → zG} {D : zD} {O : Nat → Int32} {M : zM} {ou : Nat → Int64} {od : Nat → UInt64} {j : Nat} {g : Nat} {G : zG} {a1 : Int32} {X : Int32 × zG}  (hg : isG g) (hx : fG_tearLabels G a1 = some X) : Ev S xs 253 0 [some (.ref g), some (.int a1), none, none] [] (zH I C Y (gup Γ g G) D O M ou od j) (((.inl (some (.int X.1))), (zH I C Y (gup Γ g X.2) D O M ou od j)) : (Option Value ⊕ String) × px_H) := by
  generalize hM : (((.inl (some (.int X.1))), (zH I C Y (gup Γ g X.2) D O M ou od j)) : (Option Value ⊕ String) × px_H) = y
  replace hM := hM.symm
  have hk : pt_mt[253]? = some pt_r253 := rfl
  unfold fG_tearLabels at hx
  refine ev_op (st' := [.int 0]) (pc' := 1) hk (.iconst 0) 1 rfl rfl rfl ?_
  refine ev_ls (L' := [some (.ref g), some (.int a1), some (.int 0), none]) (st' := []) (pc' := 2) hk (.istore_n 2) 1 rfl rfl rfl rfl ?_
  refine ev_op (st' := [.int 0]) (pc' := 3) hk (.iconst 0) 1 rfl rfl rfl ?_
  refine ev_ls (L' := [some (.ref g), some (.int a1), some (.int 0), some (.int 0)]) (st' := []) (pc' := 4) hk (.istore_n 3) 1 rfl rfl rfl rfl ?_
  exact ev_iter (qG_tearLabels_4 S xs I C Y Γ D O M ou od j g a1 _) (fun X : Int32 × zG => y = (((.inl (some (.int X.1))), (zH I C Y (gup Γ g X.2) D O M ou od j)) : (Option Value ⊕ String) × px_H)) (fun s x hb hM => rG_tearLabels_b4 hg hb hM) fu _ _ hx hM 
def qG_wearSeams_4 (S : Nat) (xs : Nat → Int32) (I : zI) (C : zC) (Y : Nat → Int32) (Γ : Nat → zG) (D : zD) (O : Nat → Int32) (M : zM) (ou : Nat → Int64) (od : Nat → UInt64) (j : Nat) (g : Nat) (y : (Option Value ⊕ String) × px_H) (s : zG × Int32 × Int32) : Prop := Ev S xs 257 4 [some (.ref g), some (.int s.2.1), some (.int s.2.2)] [] (zH I C Y (gup Γ g s.1) D O M ou od j) y
set_option maxRecDepth 4000 in
theorem rG_wearSeams_b4 {S : Nat} {xs : Nat → Int32} {I : zI} {C : zC} {Y : Nat → Int32} {Γ : Nat → zG} {D : zD} {O : Nat → Int32} {M : zM} {ou : Nat → Int64} {od : Nat → UInt64} {j : Nat} {g : Nat}  {y : (Option Value ⊕ String) × px_H} {s : zG × Int32 × Int32} {x : (zG × Int32 × Int32) ⊕ (Int32 × zG)} (hg : isG g) (hx : fG_wearSeams_b4 s.1 s.2.1 s.2.2 = some x) (hM : (Sum.elim (qG_wearSeams_4 S xs I C Y Γ D O M ou od j g y) (fun X : Int32 × zG => y = (((.inl (some (.int X.1))), (zH I C Y (gup Γ g X.2) D O M ou od j)) : (Option Value ⊕ String) × px_H))) x) : qG_wearSeams_4 S xs I C Y Γ D O M ou od j g y s := by
  obtain ⟨G, a1, a2⟩ := s
  have hk : pt_mt[257]? = some pt_r257 := rfl
  unfold fG_wearSeams_b4 at hx
  try dsimp only at hx
  refine ev_ls (L' := [some (.ref g), some (.int a1), some (.int a2)]) (st' := [.int a2]) (pc' := 5) hk (.iload_n 2) 1 rfl rfl rfl rfl ?_
  refine ev_ls (L' := [some (.ref g), some (.int a1), some (.int a2)]) (st' := [.ref g, .int a2]) (pc' := 6) hk (.aload_n 0) 1 rfl rfl rfl rfl ?_
  refine ev_gf (.ref (g + 1)) 9 hk rfl rfl (lk_globe hg gup_same) rfl rfl ?_
  refine ev_gf (.int (gF G 1 0)) 12 hk rfl rfl (lk_cloth hg gup_same) rfl rfl ?_
  refine ev_d2 49 15 hk rfl rfl rfl rfl (px_cge hx (fun hc hx => ?_) (fun hc hx => ?_))
  · refine ev_ls (L' := [some (.ref g), some (.int a1), some (.int a2)]) (st' := [.int a1]) (pc' := 50) hk (.iload_n 1) 1 rfl rfl rfl rfl ?_
    cases hx
    obtain rfl := hM
    exact ev_retI hk rfl rfl
  · refine ev_ls (L' := [some (.ref g), some (.int a1), some (.int a2)]) (st' := [.ref g]) (pc' := 16) hk (.aload_n 0) 1 rfl rfl rfl rfl ?_
    refine ev_gf (.ref (g + 1)) 19 hk rfl rfl (lk_globe hg gup_same) rfl rfl ?_
    refine ev_ls (L' := [some (.ref g), some (.int a1), some (.int a2)]) (st' := [.int a2, .ref (g + 1)]) (pc' := 20) hk (.iload_n 2) 1 rfl rfl rfl rfl ?_
    obtain ⟨v3, G2, hc4, hx⟩ := bnd2_some hx
    refine ev_cv 14 1 [.int (b2i v3)] 23 hk rfl rfl rfl rfl (lk_cloth hg gup_same) rfl rfl rfl (rC_wear hg hc4) rfl rfl rfl rfl ?_
    refine ev_d1 43 26 hk rfl rfl rfl rfl (px_beq hx (fun hc hx => ?_) (fun hc hx => ?_))
    · refine ev_ls (L' := [some (.ref g), some (.int a1), some (.int (a2 + 1))]) (st' := []) (pc' := 46) hk (.iinc 2 1) 3 rfl rfl rfl rfl ?_
      refine ev_jp (pc' := 4) (st' := []) hk (.goto (-42)) 3 rfl rfl rfl rfl rfl ?_
      cases hx
      exact hM
    · refine ev_ls (L' := [some (.ref g), some (.int a1), some (.int a2)]) (st' := [.ref g]) (pc' := 27) hk (.aload_n 0) 1 rfl rfl rfl rfl ?_
      refine ev_ls (L' := [some (.ref g), some (.int a1), some (.int a2)]) (st' := [.ref g, .ref g]) (pc' := 28) hk (.aload_n 0) 1 rfl rfl rfl rfl ?_
      refine ev_gf (.ref (g + 1)) 31 hk rfl rfl (lk_globe hg gup_same) rfl rfl ?_
      refine ev_gf (.ref (g + 3)) 34 hk rfl rfl (lk_cloth hg gup_same) rfl rfl ?_
      refine ev_ls (L' := [some (.ref g), some (.int a1), some (.int a2)]) (st' := [.int a2, .ref (g + 3), .ref g]) (pc' := 35) hk (.iload_n 2) 1 rfl rfl rfl rfl ?_
      obtain ⟨v5, hv5, hx⟩ := bnd_some hx
      refine ev_ial hv5 36 hk rfl (lk_a3 hg gup_same) rfl ?_
      obtain ⟨v7, G6, hc8, hx⟩ := bnd2_some hx
      refine ev_cv 253 1 [.int v7] 39 hk rfl rfl rfl rfl (lk_globe hg gup_same) rfl rfl rfl (rG_tearLabels hg hc8) rfl rfl rfl rfl ?_
      refine ev_op (st' := []) (pc' := 40) hk (.pop) 1 rfl rfl rfl ?_
      refine ev_ls (L' := [some (.ref g), some (.int (a1 + 1)), some (.int a2)]) (st' := []) (pc' := 43) hk (.iinc 1 1) 3 rfl rfl rfl rfl ?_
      refine ev_ls (L' := [some (.ref g), some (.int (a1 + 1)), some (.int (a2 + 1))]) (st' := []) (pc' := 46) hk (.iinc 2 1) 3 rfl rfl rfl rfl ?_
      refine ev_jp (pc' := 4) (st' := []) hk (.goto (-42)) 3 rfl rfl rfl rfl rfl ?_
      cases hx
      exact hM
set_option maxRecDepth 2000 in
theorem rG_wearSeams {S : Nat} {xs : Nat → Int32} {I : zI} {C : zC} {Y : Nat → Int32} {Γ : Nat → zG} {D : zD} {O : Nat → Int32} {M : zM} {ou : Nat → Int64} {od : Nat → UInt64} {j : Nat} {g : Nat} {G : zG}  {X : Int32 × zG}  (hg : isG g) (hx : fG_wearSeams G = some X) : Ev S xs 257 0 [some (.ref g), none, none] [] (zH I C Y (gup Γ g G) D O M ou od j) (((.inl (some (.int X.1))), (zH I C Y (gup Γ g X.2) D O M ou od j)) : (Option Value ⊕ String) × px_H) := by
  generalize hM : (((.inl (some (.int X.1))), (zH I C Y (gup Γ g X.2) D O M ou od j)) : (Option Value ⊕ String) × px_H) = y
  replace hM := hM.symm
  have hk : pt_mt[257]? = some pt_r257 := rfl
  unfold fG_wearSeams at hx
  refine ev_op (st' := [.int 0]) (pc' := 1) hk (.iconst 0) 1 rfl rfl rfl ?_
  refine ev_ls (L' := [some (.ref g), some (.int 0), none]) (st' := []) (pc' := 2) hk (.istore_n 1) 1 rfl rfl rfl rfl ?_
  refine ev_op (st' := [.int 0]) (pc' := 3) hk (.iconst 0) 1 rfl rfl rfl ?_
  refine ev_ls (L' := [some (.ref g), some (.int 0), some (.int 0)]) (st' := []) (pc' := 4) hk (.istore_n 2) 1 rfl rfl rfl rfl ?_
  exact ev_iter (qG_wearSeams_4 S xs I C Y Γ D O M ou od j g _) (fun X : Int32 × zG => y = (((.inl (some (.int X.1))), (zH I C Y (gup Γ g X.2) D O M ou od j)) : (Option Value ⊕ String) × px_H)) (fun s x hb hM => rG_wearSeams_b4 hg hb hM) fu _ _ hx hM 
def qG_letPass_4 (S : Nat) (xs : Nat → Int32) (I : zI) (C : zC) (Y : Nat → Int32) (Γ : Nat → zG) (D : zD) (O : Nat → Int32) (M : zM) (ou : Nat → Int64) (od : Nat → UInt64) (j : Nat) (g : Nat) (a1 : Int32) (y : (Option Value ⊕ String) × px_H) (s : zG × Int32 × Int32) : Prop := Ev S xs 234 4 [some (.ref g), some (.int a1), some (.int s.2.1), some (.int s.2.2)] [] (zH I C Y (gup Γ g s.1) D O M ou od j) y
set_option maxRecDepth 4000 in
theorem rG_letPass_b4 {S : Nat} {xs : Nat → Int32} {I : zI} {C : zC} {Y : Nat → Int32} {Γ : Nat → zG} {D : zD} {O : Nat → Int32} {M : zM} {ou : Nat → Int64} {od : Nat → UInt64} {j : Nat} {g : Nat} {a1 : Int32} {y : (Option Value ⊕ String) × px_H} {s : zG × Int32 × Int32} {x : (zG × Int32 × Int32) ⊕ (Int32 × zG)} (hg : isG g) (hx : fG_letPass_b4 a1 s.1 s.2.1 s.2.2 = some x) (hM : (Sum.elim (qG_letPass_4 S xs I C Y Γ D O M ou od j g a1 y) (fun X : Int32 × zG => y = (((.inl (some (.int X.1))), (zH I C Y (gup Γ g X.2) D O M ou od j)) : (Option Value ⊕ String) × px_H))) x) : qG_letPass_4 S xs I C Y Γ D O M ou od j g a1 y s := by
  obtain ⟨G, a2, a3⟩ := s
  have hk : pt_mt[234]? = some pt_r234 := rfl
  unfold fG_letPass_b4 at hx
  try dsimp only at hx
  refine ev_ls (L' := [some (.ref g), some (.int a1), some (.int a2), some (.int a3)]) (st' := [.int a3]) (pc' := 5) hk (.iload_n 3) 1 rfl rfl rfl rfl ?_
  refine ev_ls (L' := [some (.ref g), some (.int a1), some (.int a2), some (.int a3)]) (st' := [.int a1, .int a3]) (pc' := 6) hk (.iload_n 1) 1 rfl rfl rfl rfl ?_
  refine ev_d2 50 9 hk rfl rfl rfl rfl (px_cge hx (fun hc hx => ?_) (fun hc hx => ?_))
  · refine ev_ls (L' := [some (.ref g), some (.int a1), some (.int a2), some (.int a3)]) (st' := [.int a2]) (pc' := 51) hk (.iload_n 2) 1 rfl rfl rfl rfl ?_
    cases hx
    obtain rfl := hM
    exact ev_retI hk rfl rfl
  · refine ev_ls (L' := [some (.ref g), some (.int a1), some (.int a2), some (.int a3)]) (st' := [.ref g]) (pc' := 10) hk (.aload_n 0) 1 rfl rfl rfl rfl ?_
    refine ev_op (st' := [.ref g, .ref g]) (pc' := 11) hk (.dup) 1 rfl rfl rfl ?_
    refine ev_gf (.int (gF G 0 2)) 14 hk rfl rfl (lk_globe hg gup_same) rfl rfl ?_
    refine ev_op (st' := [.int 1, .int (gF G 0 2), .ref g]) (pc' := 15) hk (.iconst 1) 1 rfl rfl rfl ?_
    refine ev_op (st' := [.int ((gF G 0 2) + 1), .ref g]) (pc' := 16) hk (.iadd) 1 rfl rfl rfl ?_
    obtain ⟨G3, hG3, hx⟩ := bnd_some hx
    have hG3 := Option.some.inj hG3
    refine ev_pf 19 hk rfl rfl (lk_globe hg gup_same) rfl rfl rfl (sf_1_2 hg  gup_same hG3 gup_gup) rfl ?_
    refine ev_ls (L' := [some (.ref g), some (.int a1), some (.int a2), some (.int a3)]) (st' := [.ref g]) (pc' := 20) hk (.aload_n 0) 1 rfl rfl rfl rfl ?_
    obtain ⟨G4, hc5, hx⟩ := bnd_some hx
    refine ev_cv 254 0 [] 23 hk rfl rfl rfl rfl (lk_globe hg gup_same) rfl rfl rfl (rG_turnDiaries hg hc5) rfl rfl rfl rfl ?_
    refine ev_ls (L' := [some (.ref g), some (.int a1), some (.int a2), some (.int a3)]) (st' := [.ref g]) (pc' := 24) hk (.aload_n 0) 1 rfl rfl rfl rfl ?_
    obtain ⟨G6, hc7, hx⟩ := bnd_some hx
    refine ev_cv 255 0 [] 27 hk rfl rfl rfl rfl (lk_globe hg gup_same) rfl rfl rfl (rG_walkAll hg hc7) rfl rfl rfl rfl ?_
    refine ev_ls (L' := [some (.ref g), some (.int a1), some (.int a2), some (.int a3)]) (st' := [.ref g]) (pc' := 28) hk (.aload_n 0) 1 rfl rfl rfl rfl ?_
    refine ev_gf (.int (gF G6 0 2)) 31 hk rfl rfl (lk_globe hg gup_same) rfl rfl ?_
    refine ev_cs 229 1 [.int (b2i (fG_isWearing (gF G6 0 2)))] 34 hk rfl rfl (by decide) rfl rfl rfl (rG_isWearing rfl) rfl rfl rfl rfl ?_
    refine ev_d1 44 37 hk rfl rfl rfl rfl (px_beq hx (fun hc hx => ?_) (fun hc hx => ?_))
    · refine ev_ls (L' := [some (.ref g), some (.int a1), some (.int a2), some (.int (a3 + 1))]) (st' := []) (pc' := 47) hk (.iinc 3 1) 3 rfl rfl rfl rfl ?_
      refine ev_jp (pc' := 4) (st' := []) hk (.goto (-43)) 3 rfl rfl rfl rfl rfl ?_
      cases hx
      exact hM
    · refine ev_ls (L' := [some (.ref g), some (.int a1), some (.int a2), some (.int a3)]) (st' := [.int a2]) (pc' := 38) hk (.iload_n 2) 1 rfl rfl rfl rfl ?_
      refine ev_ls (L' := [some (.ref g), some (.int a1), some (.int a2), some (.int a3)]) (st' := [.ref g, .int a2]) (pc' := 39) hk (.aload_n 0) 1 rfl rfl rfl rfl ?_
      obtain ⟨v9, G8, hc10, hx⟩ := bnd2_some hx
      refine ev_cv 257 0 [.int v9, .int a2] 42 hk rfl rfl rfl rfl (lk_globe hg gup_same) rfl rfl rfl (rG_wearSeams hg hc10) rfl rfl rfl rfl ?_
      refine ev_op (st' := [.int (a2 + v9)]) (pc' := 43) hk (.iadd) 1 rfl rfl rfl ?_
      refine ev_ls (L' := [some (.ref g), some (.int a1), some (.int (a2 + v9)), some (.int a3)]) (st' := []) (pc' := 44) hk (.istore_n 2) 1 rfl rfl rfl rfl ?_
      refine ev_ls (L' := [some (.ref g), some (.int a1), some (.int (a2 + v9)), some (.int (a3 + 1))]) (st' := []) (pc' := 47) hk (.iinc 3 1) 3 rfl rfl rfl rfl ?_
      refine ev_jp (pc' := 4) (st' := []) hk (.goto (-43)) 3 rfl rfl rfl rfl rfl ?_
      cases hx
      exact hM
set_option maxRecDepth 2000 in
theorem rG_letPass {S : Nat} {xs : Nat → Int32} {I : zI} {C : zC} {Y : Nat → Int32} {Γ : Nat → zG} {D : zD} {O : Nat → Int32} {M : zM} {ou : Nat → Int64} {od : Nat → UInt64} {j : Nat} {g : Nat} {G : zG} {a1 : Int32} {X : Int32 × zG}  (hg : isG g) (hx : fG_letPass G a1 = some X) : Ev S xs 234 0 [some (.ref g), some (.int a1), none, none] [] (zH I C Y (gup Γ g G) D O M ou od j) (((.inl (some (.int X.1))), (zH I C Y (gup Γ g X.2) D O M ou od j)) : (Option Value ⊕ String) × px_H) := by
  generalize hM : (((.inl (some (.int X.1))), (zH I C Y (gup Γ g X.2) D O M ou od j)) : (Option Value ⊕ String) × px_H) = y
  replace hM := hM.symm
  have hk : pt_mt[234]? = some pt_r234 := rfl
  unfold fG_letPass at hx
  refine ev_op (st' := [.int 0]) (pc' := 1) hk (.iconst 0) 1 rfl rfl rfl ?_
  refine ev_ls (L' := [some (.ref g), some (.int a1), some (.int 0), none]) (st' := []) (pc' := 2) hk (.istore_n 2) 1 rfl rfl rfl rfl ?_
  refine ev_op (st' := [.int 0]) (pc' := 3) hk (.iconst 0) 1 rfl rfl rfl ?_
  refine ev_ls (L' := [some (.ref g), some (.int a1), some (.int 0), some (.int 0)]) (st' := []) (pc' := 4) hk (.istore_n 3) 1 rfl rfl rfl rfl ?_
  exact ev_iter (qG_letPass_4 S xs I C Y Γ D O M ou od j g a1 _) (fun X : Int32 × zG => y = (((.inl (some (.int X.1))), (zH I C Y (gup Γ g X.2) D O M ou od j)) : (Option Value ⊕ String) × px_H)) (fun s x hb hM => rG_letPass_b4 hg hb hM) fu _ _ hx hM 
set_option maxRecDepth 2000 in
theorem rX_pass {S : Nat} {xs : Nat → Int32} {I : zI} {C : zC} {Y : Nat → Int32} {Γ : Nat → zG} {D : zD} {O : Nat → Int32} {M : zM} {ou : Nat → Int64} {od : Nat → UInt64} {j : Nat} {a1 : Int32} {X : (Int32 ⊕ String) × (Nat → Int32) × (Nat → zG)}   (hx : fX_pass Y Γ a1 = some X) : Ev S xs 347 0 [some (.ref 0), some (.int a1)] [] (zH I C Y Γ D O M ou od j) (Sum.elim (fun v => ((.inl (some (.int v))), (zH I C X.2.1 X.2.2 D O M ou od j))) (fun E => (.inr E, (zH I C X.2.1 X.2.2 D O M ou od (j + 1)))) X.1 : (Option Value ⊕ String) × px_H) := by
  generalize hM : (Sum.elim (fun v => ((.inl (some (.int v))), (zH I C X.2.1 X.2.2 D O M ou od j))) (fun E => (.inr E, (zH I C X.2.1 X.2.2 D O M ou od (j + 1)))) X.1 : (Option Value ⊕ String) × px_H) = y
  replace hM := hM.symm
  have hk : pt_mt[347]? = some pt_r347 := rfl
  unfold fX_pass at hx
  refine ev_ls (L' := [some (.ref 0), some (.int a1)]) (st' := [.int a1]) (pc' := 1) hk (.iload_n 1) 1 rfl rfl rfl rfl ?_
  refine ev_cs 242 1 [.int (fG_passRefusal a1)] 4 hk rfl rfl (by decide) rfl rfl rfl (rG_passRefusal rfl) rfl rfl rfl rfl ?_
  rcases bnx_some hx with ⟨⟨⟩, hc1, hx⟩ | ⟨E2, hc1, hx⟩
  · skip
    refine ev_cs 350 1 [] 7 hk rfl rfl (by decide) rfl rfl rfl (rX_refuse hc1) rfl rfl rfl rfl ?_
    refine ev_ls (L' := [some (.ref 0), some (.int a1)]) (st' := [.ref 0]) (pc' := 8) hk (.aload_n 0) 1 rfl rfl rfl rfl ?_
    refine ev_gf (.ref 88) 11 hk rfl rfl lk_dh rfl rfl ?_
    refine ev_ls (L' := [some (.ref 0), some (.int a1)]) (st' := [.ref 0, .ref 88]) (pc' := 12) hk (.aload_n 0) 1 rfl rfl rfl rfl ?_
    refine ev_gf (.ref 10) 15 hk rfl rfl lk_dh rfl rfl ?_
    obtain ⟨Y4, Γ5, hc6, hx⟩ := bnd2_some hx
    refine ev_cv 261 1 [] 18 hk rfl rfl rfl rfl lk_hist rfl rfl rfl (rY_remember isG_10 (by decide) hc6) rfl rfl rfl rfl ?_
    refine ev_ls (L' := [some (.ref 0), some (.int a1)]) (st' := [.ref 0]) (pc' := 19) hk (.aload_n 0) 1 rfl rfl rfl rfl ?_
    refine ev_gf (.ref 10) 22 hk rfl rfl lk_dh rfl rfl ?_
    refine ev_ls (L' := [some (.ref 0), some (.int a1)]) (st' := [.int a1, .ref 10]) (pc' := 23) hk (.iload_n 1) 1 rfl rfl rfl rfl ?_
    obtain ⟨v8, G7, hc9, hx⟩ := bnd2_some hx
    refine ev_cv 234 1 [.int v8] 26 hk rfl rfl rfl rfl (lk_globe isG_10 rfl) rfl rfl rfl (ev_gs (rG_letPass isG_10 hc9)) rfl rfl rfl rfl ?_
    cases hx
    obtain rfl := hM
    exact ev_retI hk rfl rfl
  · skip
    cases hx
    obtain rfl := hM
    exact ev_csX 350 1 hk rfl rfl (by decide) rfl rfl rfl rfl (rX_refuse hc1) rfl rfl
set_option maxRecDepth 2000 in
theorem rw_pass {S : Nat} {xs : Nat → Int32} {I : zI} {C : zC} {Y : Nat → Int32} {Γ : Nat → zG} {D : zD} {O : Nat → Int32} {M : zM} {ou : Nat → Int64} {od : Nat → UInt64} {j : Nat} {a1 : Int32} {X : Int32 × (Nat → Int32) × (Nat → zG) × (Nat → Int64) × Nat}   (hx : fw_pass Y Γ ou j a1 = some X) : Ev S xs 397 0 [some (.ref 0), some (.int a1), some (.ref 261), none] [] (zH I C Y Γ D O M ou od j) (((.inl (some (.int X.1))), (zH I C X.2.1 X.2.2.1 D O M X.2.2.2.1 od X.2.2.2.2)) : (Option Value ⊕ String) × px_H) := by
  generalize hM : (((.inl (some (.int X.1))), (zH I C X.2.1 X.2.2.1 D O M X.2.2.2.1 od X.2.2.2.2)) : (Option Value ⊕ String) × px_H) = y
  replace hM := hM.symm
  have hk : pt_mt[397]? = some pt_r397 := rfl
  unfold fw_pass at hx
  refine ev_ls (L' := [some (.ref 0), some (.int a1), some (.ref 261), none]) (st' := [.ref 261]) (pc' := 1) hk (.aload_n 2) 1 rfl rfl rfl rfl ?_
  refine ev_op (st' := [.int 0, .ref 261]) (pc' := 2) hk (.iconst 0) 1 rfl rfl rfl ?_
  refine ev_ls (L' := [some (.ref 0), some (.int a1), some (.ref 261), none]) (st' := [.ref 0, .int 0, .ref 261]) (pc' := 3) hk (.aload_n 0) 1 rfl rfl rfl rfl ?_
  refine ev_ls (L' := [some (.ref 0), some (.int a1), some (.ref 261), none]) (st' := [.int a1, .ref 0, .int 0, .ref 261]) (pc' := 4) hk (.iload_n 1) 1 rfl rfl rfl rfl ?_
  obtain ⟨r8, Y2, Γ3, hc4, hx⟩ := bnd3_some hx
  rcases r8 with v6 | E5
  · simp only [Sum.elim_inl] at hx
    refine ev_cv 347 1 [.int v6, .int 0, .ref 261] 7 hk rfl rfl rfl rfl lk_dh rfl rfl rfl (rX_pass hc4) rfl rfl rfl rfl ?_
    refine ev_op (st' := [.long (Int32.toInt64 v6), .int 0, .ref 261]) (pc' := 8) hk (.i2l) 1 rfl rfl rfl ?_
    obtain ⟨ou7, hou7, hx⟩ := bnd_some hx
    have hou7 := Option.some.inj hou7
    refine ev_las (A := (vp_updL ou 0 (Int32.toInt64 v6))) rfl 9 hk rfl lk_ou (sa_ou hou7) rfl ?_
    refine ev_jp (pc' := 15) (st' := []) hk (.goto 6) 3 rfl rfl rfl rfl rfl ?_
    refine ev_op (st' := [.int 0]) (pc' := 16) hk (.iconst 0) 1 rfl rfl rfl ?_
    cases hx
    obtain rfl := hM
    exact ev_retI hk rfl rfl
  · simp only [Sum.elim_inr] at hx
    rcases ite_or hx with ⟨hE, hx⟩ | ⟨hE, hx⟩
    · subst hE
      refine ev_cvC 347 1 13 hk rfl rfl rfl rfl lk_dh rfl rfl rfl (t := 12) (by decide +kernel) (L' := [some (.ref 0), some (.int a1), some (.ref 261), none]) rfl (rX_pass hc4) rfl rfl ?_
      refine ev_op (st' := [.int 1]) (pc' := 14) hk (.iconst 1) 1 rfl rfl rfl ?_
      cases hx
      obtain rfl := hM
      exact ev_retI hk rfl rfl
    cases hx
set_option maxRecDepth 2000 in
theorem rM_areHours {S : Nat} {xs : Nat → Int32} {I : zI} {C : zC} {Y : Nat → Int32} {Γ : Nat → zG} {D : zD} {O : Nat → Int32} {M : zM} {ou : Nat → Int64} {od : Nat → UInt64} {j : Nat} {a0 : Int32} {X : Bool}   (hx : fM_areHours a0 = X) : Ev S xs 23 0 [some (.int a0)] [] (zH I C Y Γ D O M ou od j) (((.inl (some (.int (b2i X)))), (zH I C Y Γ D O M ou od j)) : (Option Value ⊕ String) × px_H) := by
  generalize hM : (((.inl (some (.int (b2i X)))), (zH I C Y Γ D O M ou od j)) : (Option Value ⊕ String) × px_H) = y
  replace hM := hM.symm
  have hk : pt_mt[23]? = some pt_r23 := rfl
  unfold fM_areHours at hx
  refine ev_ls (L' := [some (.int a0)]) (st' := [.int a0]) (pc' := 1) hk (.iload_n 0) 1 rfl rfl rfl rfl ?_
  refine ev_op (st' := [.long (Int32.toInt64 a0)]) (pc' := 2) hk (.i2l) 1 rfl rfl rfl ?_
  refine ev_op (st' := [.long 1, .long (Int32.toInt64 a0)]) (pc' := 3) hk (.lconst 1) 1 rfl rfl rfl ?_
  refine ev_ldJ 240 6 hk rfl rfl rfl ?_
  refine ev_cs 86 3 [.int (b2i (fM_isIn (Int32.toInt64 a0) 1 240))] 9 hk rfl rfl (by decide) rfl rfl rfl (rM_isIn rfl) rfl rfl rfl rfl ?_
  cases hx
  obtain rfl := hM
  exact ev_retZ _ rfl hk rfl rfl
set_option maxRecDepth 2000 in
theorem rM_laysAside {S : Nat} {xs : Nat → Int32} {I : zI} {C : zC} {Y : Nat → Int32} {Γ : Nat → zG} {D : zD} {O : Nat → Int32} {M : zM} {ou : Nat → Int64} {od : Nat → UInt64} {j : Nat}  {X : zM}   (hx : fM_laysAside M = some X) : Ev S xs 117 0 [some (.ref 247)] [] (zH I C Y Γ D O M ou od j) (((.inl none), (zH I C Y Γ D O X ou od j)) : (Option Value ⊕ String) × px_H) := by
  generalize hM : (((.inl none), (zH I C Y Γ D O X ou od j)) : (Option Value ⊕ String) × px_H) = y
  replace hM := hM.symm
  have hk : pt_mt[117]? = some pt_r117 := rfl
  unfold fM_laysAside at hx
  refine ev_ls (L' := [some (.ref 247)]) (st' := [.ref 247]) (pc' := 1) hk (.aload_n 0) 1 rfl rfl rfl rfl ?_
  refine ev_gf (.ref 249) 4 hk rfl rfl lk_model rfl rfl ?_
  refine ev_op (st' := [.int 0, .ref 249]) (pc' := 5) hk (.iconst 0) 1 rfl rfl rfl ?_
  refine ev_ls (L' := [some (.ref 247)]) (st' := [.ref 247, .int 0, .ref 249]) (pc' := 6) hk (.aload_n 0) 1 rfl rfl rfl rfl ?_
  refine ev_gf (.ref 251) 9 hk rfl rfl lk_model rfl rfl ?_
  refine ev_op (st' := [.int 0, .ref 251, .int 0, .ref 249]) (pc' := 10) hk (.iconst 0) 1 rfl rfl rfl ?_
  obtain ⟨M1, hc2, hx⟩ := bnd_some hx
  refine ev_cs 37 4 [] 13 hk rfl rfl (by decide) rfl rfl rfl (rM_copiesRow (ma_249) (ma_251) hc2) rfl rfl rfl rfl ?_
  cases hx
  obtain rfl := hM
  exact ev_retv hk rfl rfl
set_option maxRecDepth 2000 in
theorem rM_spt {S : Nat} {xs : Nat → Int32} {I : zI} {C : zC} {Y : Nat → Int32} {Γ : Nat → zG} {D : zD} {O : Nat → Int32} {M : zM} {ou : Nat → Int64} {od : Nat → UInt64} {j : Nat} {a0 : Int32} {X : Int32}   (hx : fM_spt a0 = X) : Ev S xs 168 0 [some (.int a0)] [] (zH I C Y Γ D O M ou od j) (((.inl (some (.int X))), (zH I C Y Γ D O M ou od j)) : (Option Value ⊕ String) × px_H) := by
  generalize hM : (((.inl (some (.int X))), (zH I C Y Γ D O M ou od j)) : (Option Value ⊕ String) × px_H) = y
  replace hM := hM.symm
  have hk : pt_mt[168]? = some pt_r168 := rfl
  unfold fM_spt at hx
  refine ev_op (st' := [.int 38]) (pc' := 2) hk (.bipush 38) 2 rfl rfl rfl ?_
  refine ev_op (st' := [.int 9, .int 38]) (pc' := 4) hk (.bipush 9) 2 rfl rfl rfl ?_
  refine ev_ls (L' := [some (.int a0)]) (st' := [.int a0, .int 9, .int 38]) (pc' := 5) hk (.iload_n 0) 1 rfl rfl rfl rfl ?_
  refine ev_op (st' := [.int (9 * a0), .int 38]) (pc' := 6) hk (.imul) 1 rfl rfl rfl ?_
  refine ev_op (st' := [.int (38 + (9 * a0))]) (pc' := 7) hk (.iadd) 1 rfl rfl rfl ?_
  cases hx
  obtain rfl := hM
  exact ev_retI hk rfl rfl
set_option maxRecDepth 2000 in
theorem rM_of {S : Nat} {xs : Nat → Int32} {I : zI} {C : zC} {Y : Nat → Int32} {Γ : Nat → zG} {D : zD} {O : Nat → Int32} {M : zM} {ou : Nat → Int64} {od : Nat → UInt64} {j : Nat} {a1 : Int32} {a2 : Int32} {X : Int32}   (hx : fM_of M a1 a2 = some X) : Ev S xs 145 0 [some (.ref 247), some (.int a1), some (.int a2)] [] (zH I C Y Γ D O M ou od j) (((.inl (some (.int X))), (zH I C Y Γ D O M ou od j)) : (Option Value ⊕ String) × px_H) := by
  generalize hM : (((.inl (some (.int X))), (zH I C Y Γ D O M ou od j)) : (Option Value ⊕ String) × px_H) = y
  replace hM := hM.symm
  have hk : pt_mt[145]? = some pt_r145 := rfl
  unfold fM_of at hx
  refine ev_ls (L' := [some (.ref 247), some (.int a1), some (.int a2)]) (st' := [.ref 247]) (pc' := 1) hk (.aload_n 0) 1 rfl rfl rfl rfl ?_
  refine ev_gf (.ref 249) 4 hk rfl rfl lk_model rfl rfl ?_
  refine ev_ls (L' := [some (.ref 247), some (.int a1), some (.int a2)]) (st' := [.int a1, .ref 249]) (pc' := 5) hk (.iload_n 1) 1 rfl rfl rfl rfl ?_
  refine ev_cs 168 1 [.int (fM_spt a1), .ref 249] 8 hk rfl rfl (by decide) rfl rfl rfl (rM_spt rfl) rfl rfl rfl rfl ?_
  refine ev_ls (L' := [some (.ref 247), some (.int a1), some (.int a2)]) (st' := [.int a2, .int (fM_spt a1), .ref 249]) (pc' := 9) hk (.iload_n 2) 1 rfl rfl rfl rfl ?_
  refine ev_op (st' := [.int ((fM_spt a1) + a2), .ref 249]) (pc' := 10) hk (.iadd) 1 rfl rfl rfl ?_
  obtain ⟨v2, hv2, hx⟩ := bnd_some hx
  refine ev_ial hv2 11 hk rfl lk_m249 rfl ?_
  cases hx
  obtain rfl := hM
  exact ev_retI hk rfl rfl
set_option maxRecDepth 2000 in
theorem rM_travels {S : Nat} {xs : Nat → Int32} {I : zI} {C : zC} {Y : Nat → Int32} {Γ : Nat → zG} {D : zD} {O : Nat → Int32} {M : zM} {ou : Nat → Int64} {od : Nat → UInt64} {j : Nat} {a1 : Int32} {X : Bool}   (hx : fM_travels M a1 = some X) : Ev S xs 187 0 [some (.ref 247), some (.int a1)] [] (zH I C Y Γ D O M ou od j) (((.inl (some (.int (b2i X)))), (zH I C Y Γ D O M ou od j)) : (Option Value ⊕ String) × px_H) := by
  generalize hM : (((.inl (some (.int (b2i X)))), (zH I C Y Γ D O M ou od j)) : (Option Value ⊕ String) × px_H) = y
  replace hM := hM.symm
  have hk : pt_mt[187]? = some pt_r187 := rfl
  unfold fM_travels at hx
  refine ev_ls (L' := [some (.ref 247), some (.int a1)]) (st' := [.ref 247]) (pc' := 1) hk (.aload_n 0) 1 rfl rfl rfl rfl ?_
  refine ev_ls (L' := [some (.ref 247), some (.int a1)]) (st' := [.int a1, .ref 247]) (pc' := 2) hk (.iload_n 1) 1 rfl rfl rfl rfl ?_
  refine ev_op (st' := [.int 2, .int a1, .ref 247]) (pc' := 3) hk (.iconst 2) 1 rfl rfl rfl ?_
  obtain ⟨v1, hc2, hx⟩ := bnd_some hx
  refine ev_cv 145 2 [.int v1] 6 hk rfl rfl rfl rfl lk_model rfl rfl rfl (rM_of hc2) rfl rfl rfl rfl ?_
  refine ev_op (st' := [.int 1, .int v1]) (pc' := 7) hk (.iconst 1) 1 rfl rfl rfl ?_
  refine ev_d2 14 10 hk rfl rfl rfl rfl (px_cne hx (fun hc hx => ?_) (fun hc hx => ?_))
  · refine ev_op (st' := [.int 0]) (pc' := 15) hk (.iconst 0) 1 rfl rfl rfl ?_
    cases hx
    obtain rfl := hM
    exact ev_retZ false rfl hk rfl rfl
  · refine ev_op (st' := [.int 1]) (pc' := 11) hk (.iconst 1) 1 rfl rfl rfl ?_
    refine ev_jp (pc' := 15) (st' := [.int 1]) hk (.goto 4) 3 rfl rfl rfl rfl rfl ?_
    cases hx
    obtain rfl := hM
    exact ev_retZ true rfl hk rfl rfl
set_option maxRecDepth 2000 in
theorem rM_longitudeOf {S : Nat} {xs : Nat → Int32} {I : zI} {C : zC} {Y : Nat → Int32} {Γ : Nat → zG} {D : zD} {O : Nat → Int32} {M : zM} {ou : Nat → Int64} {od : Nat → UInt64} {j : Nat} {a1 : Int32} {a2 : Int32} {X : Int32}   (hx : fM_longitudeOf M a1 a2 = some X) : Ev S xs 127 0 [some (.ref 247), some (.int a1), some (.int a2)] [] (zH I C Y Γ D O M ou od j) (((.inl (some (.int X))), (zH I C Y Γ D O M ou od j)) : (Option Value ⊕ String) × px_H) := by
  generalize hM : (((.inl (some (.int X))), (zH I C Y Γ D O M ou od j)) : (Option Value ⊕ String) × px_H) = y
  replace hM := hM.symm
  have hk : pt_mt[127]? = some pt_r127 := rfl
  unfold fM_longitudeOf at hx
  refine ev_ls (L' := [some (.ref 247), some (.int a1), some (.int a2)]) (st' := [.int a2]) (pc' := 1) hk (.iload_n 2) 1 rfl rfl rfl rfl ?_
  refine ev_ls (L' := [some (.ref 247), some (.int a1), some (.int a2)]) (st' := [.ref 247, .int a2]) (pc' := 2) hk (.aload_n 0) 1 rfl rfl rfl rfl ?_
  refine ev_gf (.ref 249) 5 hk rfl rfl lk_model rfl rfl ?_
  refine ev_op (st' := [.int 5, .ref 249, .int a2]) (pc' := 6) hk (.iconst 5) 1 rfl rfl rfl ?_
  refine ev_ls (L' := [some (.ref 247), some (.int a1), some (.int a2)]) (st' := [.int a1, .int 5, .ref 249, .int a2]) (pc' := 7) hk (.iload_n 1) 1 rfl rfl rfl rfl ?_
  refine ev_op (st' := [.int (5 + a1), .ref 249, .int a2]) (pc' := 8) hk (.iadd) 1 rfl rfl rfl ?_
  obtain ⟨v2, hv2, hx⟩ := bnd_some hx
  refine ev_ial hv2 9 hk rfl lk_m249 rfl ?_
  refine ev_d2 16 12 hk rfl rfl rfl rfl (px_cge hx (fun hc hx => ?_) (fun hc hx => ?_))
  · refine ev_ls (L' := [some (.ref 247), some (.int a1), some (.int a2)]) (st' := [.int a2]) (pc' := 17) hk (.iload_n 2) 1 rfl rfl rfl rfl ?_
    refine ev_op (st' := [.int 360, .int a2]) (pc' := 20) hk (.sipush 360) 3 rfl rfl rfl ?_
    refine ev_op (st' := [.int (a2 - 360)]) (pc' := 21) hk (.isub) 1 rfl rfl rfl ?_
    cases hx
    obtain rfl := hM
    exact ev_retI hk rfl rfl
  · refine ev_ls (L' := [some (.ref 247), some (.int a1), some (.int a2)]) (st' := [.int a2]) (pc' := 13) hk (.iload_n 2) 1 rfl rfl rfl rfl ?_
    refine ev_jp (pc' := 21) (st' := [.int a2]) hk (.goto 8) 3 rfl rfl rfl rfl rfl ?_
    cases hx
    obtain rfl := hM
    exact ev_retI hk rfl rfl
set_option maxRecDepth 2000 in
theorem rM_floored {S : Nat} {xs : Nat → Int32} {I : zI} {C : zC} {Y : Nat → Int32} {Γ : Nat → zG} {D : zD} {O : Nat → Int32} {M : zM} {ou : Nat → Int64} {od : Nat → UInt64} {j : Nat} {a0 : Int32} {a1 : Int32} {X : Int32}   (hx : fM_floored a0 a1 = some X) : Ev S xs 55 0 [some (.int a0), some (.int a1)] [] (zH I C Y Γ D O M ou od j) (((.inl (some (.int X))), (zH I C Y Γ D O M ou od j)) : (Option Value ⊕ String) × px_H) := by
  generalize hM : (((.inl (some (.int X))), (zH I C Y Γ D O M ou od j)) : (Option Value ⊕ String) × px_H) = y
  replace hM := hM.symm
  have hk : pt_mt[55]? = some pt_r55 := rfl
  unfold fM_floored at hx
  refine ev_ls (L' := [some (.int a0), some (.int a1)]) (st' := [.int a0]) (pc' := 1) hk (.iload_n 0) 1 rfl rfl rfl rfl ?_
  refine ev_d1 10 4 hk rfl rfl rfl rfl (px_clt hx (fun hc hx => ?_) (fun hc hx => ?_))
  · refine ev_ls (L' := [some (.int a0), some (.int a1)]) (st' := [.int a1]) (pc' := 11) hk (.iload_n 1) 1 rfl rfl rfl rfl ?_
    refine ev_op (st' := [.int 1, .int a1]) (pc' := 12) hk (.iconst 1) 1 rfl rfl rfl ?_
    refine ev_op (st' := [.int (a1 - 1)]) (pc' := 13) hk (.isub) 1 rfl rfl rfl ?_
    refine ev_ls (L' := [some (.int a0), some (.int a1)]) (st' := [.int a0, .int (a1 - 1)]) (pc' := 14) hk (.iload_n 0) 1 rfl rfl rfl rfl ?_
    refine ev_op (st' := [.int ((a1 - 1) - a0)]) (pc' := 15) hk (.isub) 1 rfl rfl rfl ?_
    refine ev_ls (L' := [some (.int a0), some (.int a1)]) (st' := [.int a1, .int ((a1 - 1) - a0)]) (pc' := 16) hk (.iload_n 1) 1 rfl rfl rfl rfl ?_
    obtain ⟨v3, hv3, hx⟩ := bnd_some hx
    refine ev_dv 17 hk rfl hv3 rfl ?_
    refine ev_op (st' := [.int (-v3)]) (pc' := 18) hk (.ineg) 1 rfl rfl rfl ?_
    cases hx
    obtain rfl := hM
    exact ev_retI hk rfl rfl
  · refine ev_ls (L' := [some (.int a0), some (.int a1)]) (st' := [.int a0]) (pc' := 5) hk (.iload_n 0) 1 rfl rfl rfl rfl ?_
    refine ev_ls (L' := [some (.int a0), some (.int a1)]) (st' := [.int a1, .int a0]) (pc' := 6) hk (.iload_n 1) 1 rfl rfl rfl rfl ?_
    obtain ⟨v4, hv4, hx⟩ := bnd_some hx
    refine ev_dv 7 hk rfl hv4 rfl ?_
    refine ev_jp (pc' := 18) (st' := [.int v4]) hk (.goto 11) 3 rfl rfl rfl rfl rfl ?_
    cases hx
    obtain rfl := hM
    exact ev_retI hk rfl rfl
set_option maxRecDepth 2000 in
theorem rM_localHours {S : Nat} {xs : Nat → Int32} {I : zI} {C : zC} {Y : Nat → Int32} {Γ : Nat → zG} {D : zD} {O : Nat → Int32} {M : zM} {ou : Nat → Int64} {od : Nat → UInt64} {j : Nat} {a1 : Int32} {a2 : Int32} {X : Int32}   (hx : fM_localHours M a1 a2 = some X) : Ev S xs 124 0 [some (.ref 247), some (.int a1), some (.int a2)] [] (zH I C Y Γ D O M ou od j) (((.inl (some (.int X))), (zH I C Y Γ D O M ou od j)) : (Option Value ⊕ String) × px_H) := by
  generalize hM : (((.inl (some (.int X))), (zH I C Y Γ D O M ou od j)) : (Option Value ⊕ String) × px_H) = y
  replace hM := hM.symm
  have hk : pt_mt[124]? = some pt_r124 := rfl
  unfold fM_localHours at hx
  refine ev_ls (L' := [some (.ref 247), some (.int a1), some (.int a2)]) (st' := [.ref 247]) (pc' := 1) hk (.aload_n 0) 1 rfl rfl rfl rfl ?_
  refine ev_gf (.ref 249) 4 hk rfl rfl lk_model rfl rfl ?_
  refine ev_op (st' := [.int 4, .ref 249]) (pc' := 5) hk (.iconst 4) 1 rfl rfl rfl ?_
  refine ev_ial (v := ((mA M 249) 4)) rfl 6 hk rfl lk_m249 rfl ?_
  refine ev_ls (L' := [some (.ref 247), some (.int a1), some (.int a2)]) (st' := [.ref 247, .int ((mA M 249) 4)]) (pc' := 7) hk (.aload_n 0) 1 rfl rfl rfl rfl ?_
  refine ev_ls (L' := [some (.ref 247), some (.int a1), some (.int a2)]) (st' := [.int a1, .ref 247, .int ((mA M 249) 4)]) (pc' := 8) hk (.iload_n 1) 1 rfl rfl rfl rfl ?_
  refine ev_ls (L' := [some (.ref 247), some (.int a1), some (.int a2)]) (st' := [.int a2, .int a1, .ref 247, .int ((mA M 249) 4)]) (pc' := 9) hk (.iload_n 2) 1 rfl rfl rfl rfl ?_
  obtain ⟨v1, hc2, hx⟩ := bnd_some hx
  refine ev_cv 127 2 [.int v1, .int ((mA M 249) 4)] 12 hk rfl rfl rfl rfl lk_model rfl rfl rfl (rM_longitudeOf hc2) rfl rfl rfl rfl ?_
  refine ev_op (st' := [.int 15, .int v1, .int ((mA M 249) 4)]) (pc' := 14) hk (.bipush 15) 2 rfl rfl rfl ?_
  obtain ⟨v3, hc4, hx⟩ := bnd_some hx
  refine ev_cs 55 2 [.int v3, .int ((mA M 249) 4)] 17 hk rfl rfl (by decide) rfl rfl rfl (rM_floored hc4) rfl rfl rfl rfl ?_
  refine ev_op (st' := [.int (((mA M 249) 4) + v3)]) (pc' := 18) hk (.iadd) 1 rfl rfl rfl ?_
  cases hx
  obtain rfl := hM
  exact ev_retI hk rfl rfl
set_option maxRecDepth 2000 in
theorem rM_localDay {S : Nat} {xs : Nat → Int32} {I : zI} {C : zC} {Y : Nat → Int32} {Γ : Nat → zG} {D : zD} {O : Nat → Int32} {M : zM} {ou : Nat → Int64} {od : Nat → UInt64} {j : Nat} {a1 : Int32} {a2 : Int32} {X : Int32}   (hx : fM_localDay M a1 a2 = some X) : Ev S xs 122 0 [some (.ref 247), some (.int a1), some (.int a2)] [] (zH I C Y Γ D O M ou od j) (((.inl (some (.int X))), (zH I C Y Γ D O M ou od j)) : (Option Value ⊕ String) × px_H) := by
  generalize hM : (((.inl (some (.int X))), (zH I C Y Γ D O M ou od j)) : (Option Value ⊕ String) × px_H) = y
  replace hM := hM.symm
  have hk : pt_mt[122]? = some pt_r122 := rfl
  unfold fM_localDay at hx
  refine ev_ls (L' := [some (.ref 247), some (.int a1), some (.int a2)]) (st' := [.ref 247]) (pc' := 1) hk (.aload_n 0) 1 rfl rfl rfl rfl ?_
  refine ev_ls (L' := [some (.ref 247), some (.int a1), some (.int a2)]) (st' := [.int a1, .ref 247]) (pc' := 2) hk (.iload_n 1) 1 rfl rfl rfl rfl ?_
  refine ev_ls (L' := [some (.ref 247), some (.int a1), some (.int a2)]) (st' := [.int a2, .int a1, .ref 247]) (pc' := 3) hk (.iload_n 2) 1 rfl rfl rfl rfl ?_
  obtain ⟨v1, hc2, hx⟩ := bnd_some hx
  refine ev_cv 124 2 [.int v1] 6 hk rfl rfl rfl rfl lk_model rfl rfl rfl (rM_localHours hc2) rfl rfl rfl rfl ?_
  refine ev_op (st' := [.int 24, .int v1]) (pc' := 8) hk (.bipush 24) 2 rfl rfl rfl ?_
  obtain ⟨v3, hc4, hx⟩ := bnd_some hx
  refine ev_cs 55 2 [.int v3] 11 hk rfl rfl (by decide) rfl rfl rfl (rM_floored hc4) rfl rfl rfl rfl ?_
  cases hx
  obtain rfl := hM
  exact ev_retI hk rfl rfl
set_option maxRecDepth 2000 in
theorem rM_localHour {S : Nat} {xs : Nat → Int32} {I : zI} {C : zC} {Y : Nat → Int32} {Γ : Nat → zG} {D : zD} {O : Nat → Int32} {M : zM} {ou : Nat → Int64} {od : Nat → UInt64} {j : Nat} {a1 : Int32} {a2 : Int32} {X : Int32}   (hx : fM_localHour M a1 a2 = some X) : Ev S xs 123 0 [some (.ref 247), some (.int a1), some (.int a2)] [] (zH I C Y Γ D O M ou od j) (((.inl (some (.int X))), (zH I C Y Γ D O M ou od j)) : (Option Value ⊕ String) × px_H) := by
  generalize hM : (((.inl (some (.int X))), (zH I C Y Γ D O M ou od j)) : (Option Value ⊕ String) × px_H) = y
  replace hM := hM.symm
  have hk : pt_mt[123]? = some pt_r123 := rfl
  unfold fM_localHour at hx
  refine ev_ls (L' := [some (.ref 247), some (.int a1), some (.int a2)]) (st' := [.ref 247]) (pc' := 1) hk (.aload_n 0) 1 rfl rfl rfl rfl ?_
  refine ev_ls (L' := [some (.ref 247), some (.int a1), some (.int a2)]) (st' := [.int a1, .ref 247]) (pc' := 2) hk (.iload_n 1) 1 rfl rfl rfl rfl ?_
  refine ev_ls (L' := [some (.ref 247), some (.int a1), some (.int a2)]) (st' := [.int a2, .int a1, .ref 247]) (pc' := 3) hk (.iload_n 2) 1 rfl rfl rfl rfl ?_
  obtain ⟨v1, hc2, hx⟩ := bnd_some hx
  refine ev_cv 124 2 [.int v1] 6 hk rfl rfl rfl rfl lk_model rfl rfl rfl (rM_localHours hc2) rfl rfl rfl rfl ?_
  refine ev_op (st' := [.int 24, .int v1]) (pc' := 8) hk (.bipush 24) 2 rfl rfl rfl ?_
  refine ev_ls (L' := [some (.ref 247), some (.int a1), some (.int a2)]) (st' := [.ref 247, .int 24, .int v1]) (pc' := 9) hk (.aload_n 0) 1 rfl rfl rfl rfl ?_
  refine ev_ls (L' := [some (.ref 247), some (.int a1), some (.int a2)]) (st' := [.int a1, .ref 247, .int 24, .int v1]) (pc' := 10) hk (.iload_n 1) 1 rfl rfl rfl rfl ?_
  refine ev_ls (L' := [some (.ref 247), some (.int a1), some (.int a2)]) (st' := [.int a2, .int a1, .ref 247, .int 24, .int v1]) (pc' := 11) hk (.iload_n 2) 1 rfl rfl rfl rfl ?_
  obtain ⟨v3, hc4, hx⟩ := bnd_some hx
  refine ev_cv 122 2 [.int v3, .int 24, .int v1] 14 hk rfl rfl rfl rfl lk_model rfl rfl rfl (rM_localDay hc4) rfl rfl rfl rfl ?_
  refine ev_op (st' := [.int (24 * v3), .int v1]) (pc' := 15) hk (.imul) 1 rfl rfl rfl ?_
  refine ev_op (st' := [.int (v1 - (24 * v3))]) (pc' := 16) hk (.isub) 1 rfl rfl rfl ?_
  cases hx
  obtain rfl := hM
  exact ev_retI hk rfl rfl
set_option maxRecDepth 2000 in
theorem rM_hourNow {S : Nat} {xs : Nat → Int32} {I : zI} {C : zC} {Y : Nat → Int32} {Γ : Nat → zG} {D : zD} {O : Nat → Int32} {M : zM} {ou : Nat → Int64} {od : Nat → UInt64} {j : Nat} {a1 : Int32} {X : Int32}   (hx : fM_hourNow M a1 = some X) : Ev S xs 74 0 [some (.ref 247), some (.int a1)] [] (zH I C Y Γ D O M ou od j) (((.inl (some (.int X))), (zH I C Y Γ D O M ou od j)) : (Option Value ⊕ String) × px_H) := by
  generalize hM : (((.inl (some (.int X))), (zH I C Y Γ D O M ou od j)) : (Option Value ⊕ String) × px_H) = y
  replace hM := hM.symm
  have hk : pt_mt[74]? = some pt_r74 := rfl
  unfold fM_hourNow at hx
  refine ev_ls (L' := [some (.ref 247), some (.int a1)]) (st' := [.ref 247]) (pc' := 1) hk (.aload_n 0) 1 rfl rfl rfl rfl ?_
  refine ev_ls (L' := [some (.ref 247), some (.int a1)]) (st' := [.ref 247, .ref 247]) (pc' := 2) hk (.aload_n 0) 1 rfl rfl rfl rfl ?_
  refine ev_ls (L' := [some (.ref 247), some (.int a1)]) (st' := [.int a1, .ref 247, .ref 247]) (pc' := 3) hk (.iload_n 1) 1 rfl rfl rfl rfl ?_
  refine ev_op (st' := [.int 3, .int a1, .ref 247, .ref 247]) (pc' := 4) hk (.iconst 3) 1 rfl rfl rfl ?_
  obtain ⟨v1, hc2, hx⟩ := bnd_some hx
  refine ev_cv 145 2 [.int v1, .ref 247] 7 hk rfl rfl rfl rfl lk_model rfl rfl rfl (rM_of hc2) rfl rfl rfl rfl ?_
  refine ev_ls (L' := [some (.ref 247), some (.int a1)]) (st' := [.ref 247, .int v1, .ref 247]) (pc' := 8) hk (.aload_n 0) 1 rfl rfl rfl rfl ?_
  refine ev_ls (L' := [some (.ref 247), some (.int a1)]) (st' := [.int a1, .ref 247, .int v1, .ref 247]) (pc' := 9) hk (.iload_n 1) 1 rfl rfl rfl rfl ?_
  refine ev_op (st' := [.int 4, .int a1, .ref 247, .int v1, .ref 247]) (pc' := 10) hk (.iconst 4) 1 rfl rfl rfl ?_
  obtain ⟨v3, hc4, hx⟩ := bnd_some hx
  refine ev_cv 145 2 [.int v3, .int v1, .ref 247] 13 hk rfl rfl rfl rfl lk_model rfl rfl rfl (rM_of hc4) rfl rfl rfl rfl ?_
  obtain ⟨v5, hc6, hx⟩ := bnd_some hx
  refine ev_cv 123 2 [.int v5] 16 hk rfl rfl rfl rfl lk_model rfl rfl rfl (rM_localHour hc6) rfl rfl rfl rfl ?_
  cases hx
  obtain rfl := hM
  exact ev_retI hk rfl rfl
set_option maxRecDepth 2000 in
theorem rM_east {S : Nat} {xs : Nat → Int32} {I : zI} {C : zC} {Y : Nat → Int32} {Γ : Nat → zG} {D : zD} {O : Nat → Int32} {M : zM} {ou : Nat → Int64} {od : Nat → UInt64} {j : Nat} {a0 : Int32} {X : Int32}   (hx : fM_east a0 = X) : Ev S xs 49 0 [some (.int a0)] [] (zH I C Y Γ D O M ou od j) (((.inl (some (.int X))), (zH I C Y Γ D O M ou od j)) : (Option Value ⊕ String) × px_H) := by
  generalize hM : (((.inl (some (.int X))), (zH I C Y Γ D O M ou od j)) : (Option Value ⊕ String) × px_H) = y
  replace hM := hM.symm
  have hk : pt_mt[49]? = some pt_r49 := rfl
  unfold fM_east at hx
  refine ev_ls (L' := [some (.int a0)]) (st' := [.int a0]) (pc' := 1) hk (.iload_n 0) 1 rfl rfl rfl rfl ?_
  refine ev_op (st' := [.int 1, .int a0]) (pc' := 2) hk (.iconst 1) 1 rfl rfl rfl ?_
  refine ev_op (st' := [.int (a0 + 1)]) (pc' := 3) hk (.iadd) 1 rfl rfl rfl ?_
  refine ev_op (st' := [.int 360, .int (a0 + 1)]) (pc' := 6) hk (.sipush 360) 3 rfl rfl rfl ?_
  refine ev_rem 7 hk rfl (by decide) rfl ?_
  cases hx
  obtain rfl := hM
  exact ev_retI hk rfl rfl
set_option maxRecDepth 4000 in
theorem rM_stepWhy_j32 {S : Nat} {xs : Nat → Int32} {I : zI} {C : zC} {Y : Nat → Int32} {Γ : Nat → zG} {D : zD} {O : Nat → Int32} {M : zM} {ou : Nat → Int64} {od : Nat → UInt64} {j : Nat} {a0t : Int32} {y : (Option Value ⊕ String) × px_H} {x : Int32}  (hx : fM_stepWhy_j32 M a0t = some x) (hM : (fun X : Int32 => y = (((.inl (some (.int X))), (zH I C Y Γ D O M ou od j)) : (Option Value ⊕ String) × px_H)) x) (u1 : Option Value) (hu1 : px_cz u1 = true) (u2 : Option Value) (hu2 : px_cz u2 = true) : Ev S xs 173 32 [some (.ref 247), u1, u2, none] [.int a0t] (zH I C Y Γ D O M ou od j) y := by
  have hk : pt_mt[173]? = some pt_r173 := rfl
  unfold fM_stepWhy_j32 at hx
  refine ev_ls (L' := [some (.ref 247), u1, u2, some (.int a0t)]) (st' := []) (pc' := 33) hk (.istore_n 3) 1 rfl rfl (congrArg (Option.map (fun L => (L, []))) (px_st1_v (i := 2) (L := [some (.ref 247), u1, u2, none]) hu2 rfl rfl rfl)) rfl ?_
  refine ev_ls (L' := [some (.ref 247), u1, u2, some (.int a0t)]) (st' := [.ref 247]) (pc' := 34) hk (.aload_n 0) 1 rfl rfl rfl rfl ?_
  refine ev_ls (L' := [some (.ref 247), u1, u2, some (.int a0t)]) (st' := [.int a0t, .ref 247]) (pc' := 35) hk (.iload_n 3) 1 rfl rfl rfl rfl ?_
  obtain ⟨v1, hc2, hx⟩ := bnd_some hx
  refine ev_cv 97 1 [.int (b2i v1)] 38 hk rfl rfl rfl rfl lk_model rfl rfl rfl (rM_isTornAt hc2) rfl rfl rfl rfl ?_
  refine ev_d1 45 41 hk rfl rfl rfl rfl (px_beq hx (fun hc hx => ?_) (fun hc hx => ?_))
  · refine ev_op (st' := [.int 0]) (pc' := 46) hk (.iconst 0) 1 rfl rfl rfl ?_
    cases hx
    obtain rfl := hM
    exact ev_retI hk rfl rfl
  · refine ev_op (st' := [.int 2]) (pc' := 42) hk (.iconst 2) 1 rfl rfl rfl ?_
    refine ev_jp (pc' := 46) (st' := [.int 2]) hk (.goto 4) 3 rfl rfl rfl rfl rfl ?_
    cases hx
    obtain rfl := hM
    exact ev_retI hk rfl rfl
set_option maxRecDepth 2000 in
theorem rM_stepWhy {S : Nat} {xs : Nat → Int32} {I : zI} {C : zC} {Y : Nat → Int32} {Γ : Nat → zG} {D : zD} {O : Nat → Int32} {M : zM} {ou : Nat → Int64} {od : Nat → UInt64} {j : Nat} {a1 : Int32} {a2 : Int32} {X : Int32}   (hx : fM_stepWhy M a1 a2 = some X) : Ev S xs 173 0 [some (.ref 247), some (.int a1), some (.int a2), none] [] (zH I C Y Γ D O M ou od j) (((.inl (some (.int X))), (zH I C Y Γ D O M ou od j)) : (Option Value ⊕ String) × px_H) := by
  generalize hM : (((.inl (some (.int X))), (zH I C Y Γ D O M ou od j)) : (Option Value ⊕ String) × px_H) = y
  replace hM := hM.symm
  have hk : pt_mt[173]? = some pt_r173 := rfl
  unfold fM_stepWhy at hx
  refine ev_ls (L' := [some (.ref 247), some (.int a1), some (.int a2), none]) (st' := [.ref 247]) (pc' := 1) hk (.aload_n 0) 1 rfl rfl rfl rfl ?_
  refine ev_ls (L' := [some (.ref 247), some (.int a1), some (.int a2), none]) (st' := [.int a1, .ref 247]) (pc' := 2) hk (.iload_n 1) 1 rfl rfl rfl rfl ?_
  obtain ⟨v3, hc4, hx⟩ := bnd_some hx
  refine ev_cv 187 1 [.int (b2i v3)] 5 hk rfl rfl rfl rfl lk_model rfl rfl rfl (rM_travels hc4) rfl rfl rfl rfl ?_
  refine ev_d1 10 8 hk rfl rfl rfl rfl (px_bne hx (fun hc hx => ?_) (fun hc hx => ?_))
  · refine ev_ls (L' := [some (.ref 247), some (.int a1), some (.int a2), none]) (st' := [.int a2]) (pc' := 11) hk (.iload_n 2) 1 rfl rfl rfl rfl ?_
    refine ev_d1 26 14 hk rfl rfl rfl rfl (px_cne hx (fun hc hx => ?_) (fun hc hx => ?_))
    · refine ev_ls (L' := [some (.ref 247), some (.int a1), some (.int a2), none]) (st' := [.ref 247]) (pc' := 27) hk (.aload_n 0) 1 rfl rfl rfl rfl ?_
      refine ev_ls (L' := [some (.ref 247), some (.int a1), some (.int a2), none]) (st' := [.int a1, .ref 247]) (pc' := 28) hk (.iload_n 1) 1 rfl rfl rfl rfl ?_
      refine ev_op (st' := [.int 4, .int a1, .ref 247]) (pc' := 29) hk (.iconst 4) 1 rfl rfl rfl ?_
      obtain ⟨v5, hc6, hx⟩ := bnd_some hx
      refine ev_cv 145 2 [.int v5] 32 hk rfl rfl rfl rfl lk_model rfl rfl rfl (rM_of hc6) rfl rfl rfl rfl ?_
      exact rM_stepWhy_j32 hx hM (some (.int a1)) rfl (some (.int a2)) rfl
    · refine ev_ls (L' := [some (.ref 247), some (.int a1), some (.int a2), none]) (st' := [.ref 247]) (pc' := 15) hk (.aload_n 0) 1 rfl rfl rfl rfl ?_
      refine ev_ls (L' := [some (.ref 247), some (.int a1), some (.int a2), none]) (st' := [.int a1, .ref 247]) (pc' := 16) hk (.iload_n 1) 1 rfl rfl rfl rfl ?_
      refine ev_op (st' := [.int 4, .int a1, .ref 247]) (pc' := 17) hk (.iconst 4) 1 rfl rfl rfl ?_
      obtain ⟨v7, hc8, hx⟩ := bnd_some hx
      refine ev_cv 145 2 [.int v7] 20 hk rfl rfl rfl rfl lk_model rfl rfl rfl (rM_of hc8) rfl rfl rfl rfl ?_
      refine ev_cs 49 1 [.int (fM_east v7)] 23 hk rfl rfl (by decide) rfl rfl rfl (rM_east rfl) rfl rfl rfl rfl ?_
      refine ev_jp (pc' := 32) (st' := [.int (fM_east v7)]) hk (.goto 9) 3 rfl rfl rfl rfl rfl ?_
      exact rM_stepWhy_j32 hx hM (some (.int a1)) rfl (some (.int a2)) rfl
  · refine ev_op (st' := [.int 1]) (pc' := 9) hk (.iconst 1) 1 rfl rfl rfl ?_
    cases hx
    obtain rfl := hM
    exact ev_retI hk rfl rfl
set_option maxRecDepth 2000 in
theorem rM_west {S : Nat} {xs : Nat → Int32} {I : zI} {C : zC} {Y : Nat → Int32} {Γ : Nat → zG} {D : zD} {O : Nat → Int32} {M : zM} {ou : Nat → Int64} {od : Nat → UInt64} {j : Nat} {a0 : Int32} {X : Int32}   (hx : fM_west a0 = X) : Ev S xs 197 0 [some (.int a0)] [] (zH I C Y Γ D O M ou od j) (((.inl (some (.int X))), (zH I C Y Γ D O M ou od j)) : (Option Value ⊕ String) × px_H) := by
  generalize hM : (((.inl (some (.int X))), (zH I C Y Γ D O M ou od j)) : (Option Value ⊕ String) × px_H) = y
  replace hM := hM.symm
  have hk : pt_mt[197]? = some pt_r197 := rfl
  unfold fM_west at hx
  refine ev_ls (L' := [some (.int a0)]) (st' := [.int a0]) (pc' := 1) hk (.iload_n 0) 1 rfl rfl rfl rfl ?_
  refine ev_op (st' := [.int 360, .int a0]) (pc' := 4) hk (.sipush 360) 3 rfl rfl rfl ?_
  refine ev_op (st' := [.int (a0 + 360)]) (pc' := 5) hk (.iadd) 1 rfl rfl rfl ?_
  refine ev_op (st' := [.int 1, .int (a0 + 360)]) (pc' := 6) hk (.iconst 1) 1 rfl rfl rfl ?_
  refine ev_op (st' := [.int ((a0 + 360) - 1)]) (pc' := 7) hk (.isub) 1 rfl rfl rfl ?_
  refine ev_op (st' := [.int 360, .int ((a0 + 360) - 1)]) (pc' := 10) hk (.sipush 360) 3 rfl rfl rfl ?_
  refine ev_rem 11 hk rfl (by decide) rfl ?_
  cases hx
  obtain rfl := hM
  exact ev_retI hk rfl rfl
set_option maxRecDepth 4000 in
theorem rM_steps_j192 {S : Nat} {xs : Nat → Int32} {I : zI} {C : zC} {Y : Nat → Int32} {Γ : Nat → zG} {D : zD} {O : Nat → Int32} {M : zM} {ou : Nat → Int64} {od : Nat → UInt64} {j : Nat} {a1 : Int32} {y : (Option Value ⊕ String) × px_H} {x : Int32 × zM}  (hx : fM_steps_j192 M a1 = some x) (hM : (fun X : Int32 × zM => y = (((.inl (some (.int X.1))), (zH I C Y Γ D O X.2 ou od j)) : (Option Value ⊕ String) × px_H)) x) (u2 : Option Value) (hu2 : px_cz u2 = true) (u3 : Option Value) (hu3 : px_cz u3 = true) (u4 : Option Value) (hu4 : px_cz u4 = true) (u5 : Option Value) (hu5 : px_cz u5 = true) (u6 : Option Value) (hu6 : px_cz u6 = true) (u7 : Option Value) (hu7 : px_cz u7 = true) (u8 : Option Value) (hu8 : px_cz u8 = true) : Ev S xs 174 192 [some (.ref 247), some (.int a1), u2, u3, u4, u5, u6, u7, u8] [] (zH I C Y Γ D O M ou od j) y := by
  have hk : pt_mt[174]? = some pt_r174 := rfl
  unfold fM_steps_j192 at hx
  refine ev_ls (L' := [some (.ref 247), some (.int a1), u2, u3, u4, u5, u6, u7, u8]) (st' := [.ref 247]) (pc' := 193) hk (.aload_n 0) 1 rfl rfl rfl rfl ?_
  refine ev_ls (L' := [some (.ref 247), some (.int a1), u2, u3, u4, u5, u6, u7, u8]) (st' := [.int a1, .ref 247]) (pc' := 194) hk (.iload_n 1) 1 rfl rfl rfl rfl ?_
  refine ev_op (st' := [.int 4, .int a1, .ref 247]) (pc' := 195) hk (.iconst 4) 1 rfl rfl rfl ?_
  obtain ⟨v39, hc40, hx⟩ := bnd_some hx
  refine ev_cv 145 2 [.int v39] 198 hk rfl rfl rfl rfl lk_model rfl rfl rfl (rM_of hc40) rfl rfl rfl rfl ?_
  cases hx
  obtain rfl := hM
  exact ev_retI hk rfl rfl

/-! THE ROWS of the methods: each function is what the pure machine does (10) -/
set_option maxRecDepth 2000 in
theorem rD_readThread {S : Nat} {xs : Nat → Int32} {I : zI} {C : zC} {Y : Nat → Int32} {Γ : Nat → zG} {D : zD} {O : Nat → Int32} {M : zM} {ou : Nat → Int64} {od : Nat → UInt64} {j : Nat} {g : Nat} {G : zG}  {X : Bool × zI × zG}  (hg : isG g) (hx : fD_readThread I G = some X) : Ev S xs 211 0 [some (.ref 1), some (.ref g), none] [] (zH I C Y (gup Γ g G) D O M ou od j) (((.inl (some (.int (b2i X.1)))), (zH X.2.1 C Y (gup Γ g X.2.2) D O M ou od j)) : (Option Value ⊕ String) × px_H) := by
  generalize hM : (((.inl (some (.int (b2i X.1)))), (zH X.2.1 C Y (gup Γ g X.2.2) D O M ou od j)) : (Option Value ⊕ String) × px_H) = y
  replace hM := hM.symm
  have hk : pt_mt[211]? = some pt_r211 := rfl
  unfold fD_readThread at hx
  refine ev_ls (L' := [some (.ref 1), some (.ref g), none]) (st' := [.ref 1]) (pc' := 1) hk (.aload_n 0) 1 rfl rfl rfl rfl ?_
  refine ev_op (st' := [.int 0, .ref 1]) (pc' := 2) hk (.iconst 0) 1 rfl rfl rfl ?_
  refine ev_op (st' := [.int 9999, .int 0, .ref 1]) (pc' := 5) hk (.sipush 9999) 3 rfl rfl rfl ?_
  obtain ⟨v3, I2, hc4, hx⟩ := bnd2_some hx
  refine ev_cv 263 2 [.int v3] 8 hk rfl rfl rfl rfl lk_input rfl rfl rfl (rI_expectNumber hc4) rfl rfl rfl rfl ?_
  refine ev_ls (L' := [some (.ref 1), some (.ref g), some (.int v3)]) (st' := []) (pc' := 9) hk (.istore_n 2) 1 rfl rfl rfl rfl ?_
  refine ev_ls (L' := [some (.ref 1), some (.ref g), some (.int v3)]) (st' := [.int v3]) (pc' := 10) hk (.iload_n 2) 1 rfl rfl rfl rfl ?_
  refine ev_op (st' := [.int (-1), .int v3]) (pc' := 11) hk (.iconst (-1)) 1 rfl rfl rfl ?_
  refine ev_d2 16 14 hk rfl rfl rfl rfl (px_cne hx (fun hc hx => ?_) (fun hc hx => ?_))
  · refine ev_ls (L' := [some (.ref 1), some (.ref g), some (.int v3)]) (st' := [.ref g]) (pc' := 17) hk (.aload_n 1) 1 rfl rfl rfl rfl ?_
    refine ev_ls (L' := [some (.ref 1), some (.ref g), some (.int v3)]) (st' := [.int v3, .ref g]) (pc' := 18) hk (.iload_n 2) 1 rfl rfl rfl rfl ?_
    obtain ⟨G5, hG5, hx⟩ := bnd_some hx
    have hG5 := Option.some.inj hG5
    refine ev_pf 21 hk rfl rfl (lk_globe hg gup_same) rfl rfl rfl (sf_1_3 hg  gup_same hG5 gup_gup) rfl ?_
    refine ev_op (st' := [.int 1]) (pc' := 22) hk (.iconst 1) 1 rfl rfl rfl ?_
    cases hx
    obtain rfl := hM
    exact ev_retZ true rfl hk rfl rfl
  · refine ev_op (st' := [.int 0]) (pc' := 15) hk (.iconst 0) 1 rfl rfl rfl ?_
    cases hx
    obtain rfl := hM
    exact ev_retZ false rfl hk rfl rfl
set_option maxRecDepth 4000 in
theorem rD_readStatement_j150 {S : Nat} {xs : Nat → Int32} {I : zI} {C : zC} {Y : Nat → Int32} {Γ : Nat → zG} {D : zD} {O : Nat → Int32} {M : zM} {ou : Nat → Int64} {od : Nat → UInt64} {j : Nat} {g : Nat} {G : zG} {a4 : Int32} {y : (Option Value ⊕ String) × px_H} {x : Bool × zI × zG} (hg : isG g) (hx : fD_readStatement_j150 I G a4 = some x) (hM : (fun X : Bool × zI × zG => y = (((.inl (some (.int (b2i X.1)))), (zH X.2.1 C Y (gup Γ g X.2.2) D O M ou od j)) : (Option Value ⊕ String) × px_H)) x) (u0 : Option Value) (hu0 : px_cz u0 = true) (u1 : Option Value) (hu1 : px_cz u1 = true) (u2 : Option Value) : Ev S xs 210 150 [u0, u1, u2, none, some (.int a4)] [] (zH I C Y (gup Γ g G) D O M ou od j) y := by
  have hk : pt_mt[210]? = some pt_r210 := rfl
  unfold fD_readStatement_j150 at hx
  refine ev_ls (L' := [u0, u1, u2, none, some (.int a4)]) (st' := [.int a4]) (pc' := 152) hk (.iload 4) 2 rfl rfl rfl rfl ?_
  refine ev_op (st' := [.int (-1), .int a4]) (pc' := 153) hk (.iconst (-1)) 1 rfl rfl rfl ?_
  refine ev_d2 160 156 hk rfl rfl rfl rfl (px_ceq hx (fun hc hx => ?_) (fun hc hx => ?_))
  · refine ev_op (st' := [.int 0]) (pc' := 161) hk (.iconst 0) 1 rfl rfl rfl ?_
    cases hx
    obtain rfl := hM
    exact ev_retZ false rfl hk rfl rfl
  · refine ev_op (st' := [.int 1]) (pc' := 157) hk (.iconst 1) 1 rfl rfl rfl ?_
    refine ev_jp (pc' := 161) (st' := [.int 1]) hk (.goto 4) 3 rfl rfl rfl rfl rfl ?_
    cases hx
    obtain rfl := hM
    exact ev_retZ true rfl hk rfl rfl
set_option maxRecDepth 4000 in
theorem rD_readStatement {S : Nat} {xs : Nat → Int32} {I : zI} {C : zC} {Y : Nat → Int32} {Γ : Nat → zG} {D : zD} {O : Nat → Int32} {M : zM} {ou : Nat → Int64} {od : Nat → UInt64} {j : Nat} {g : Nat} {G : zG}  {X : Bool × zI × zG}  (hg : isG g) (hx : fD_readStatement I G = some X) : Ev S xs 210 0 [some (.ref 1), some (.ref g), none, none, none] [] (zH I C Y (gup Γ g G) D O M ou od j) (((.inl (some (.int (b2i X.1)))), (zH X.2.1 C Y (gup Γ g X.2.2) D O M ou od j)) : (Option Value ⊕ String) × px_H) := by
  generalize hM : (((.inl (some (.int (b2i X.1)))), (zH X.2.1 C Y (gup Γ g X.2.2) D O M ou od j)) : (Option Value ⊕ String) × px_H) = y
  replace hM := hM.symm
  have hk : pt_mt[210]? = some pt_r210 := rfl
  unfold fD_readStatement at hx
  refine ev_ls (L' := [some (.ref 1), some (.ref g), none, none, none]) (st' := [.ref 1]) (pc' := 1) hk (.aload_n 0) 1 rfl rfl rfl rfl ?_
  refine ev_gf (.long (iN I)) 4 hk rfl rfl lk_input rfl rfl ?_
  refine ev_ls (L' := [some (.ref 1), some (.ref g), some (.long (iN I)), none, none]) (st' := []) (pc' := 5) hk (.lstore_n 2) 1 rfl rfl rfl rfl ?_
  refine ev_ls (L' := [some (.ref 1), some (.ref g), some (.long (iN I)), none, none]) (st' := [.long (iN I)]) (pc' := 6) hk (.lload_n 2) 1 rfl rfl rfl rfl ?_
  refine ev_ldJ 1953462126 9 hk rfl rfl rfl ?_
  refine ev_op (st' := [.int (lg_cmp (iN I) 1953462126)]) (pc' := 10) hk (.lcmp) 1 rfl rfl rfl ?_
  refine ev_d1 20 13 hk rfl rfl rfl rfl (px_lne hx (fun hc hx => ?_) (fun hc hx => ?_))
  · refine ev_ls (L' := [some (.ref 1), some (.ref g), some (.long (iN I)), none, none]) (st' := [.long (iN I)]) (pc' := 21) hk (.lload_n 2) 1 rfl rfl rfl rfl ?_
    refine ev_ldJ 123581014175598 24 hk rfl rfl rfl ?_
    refine ev_op (st' := [.int (lg_cmp (iN I) 123581014175598)]) (pc' := 25) hk (.lcmp) 1 rfl rfl rfl ?_
    refine ev_d1 35 28 hk rfl rfl rfl rfl (px_lne hx (fun hc hx => ?_) (fun hc hx => ?_))
    · refine ev_ls (L' := [some (.ref 1), some (.ref g), some (.long (iN I)), none, none]) (st' := [.long (iN I)]) (pc' := 36) hk (.lload_n 2) 1 rfl rfl rfl rfl ?_
      refine ev_ldJ 465490306412 39 hk rfl rfl rfl ?_
      refine ev_op (st' := [.int (lg_cmp (iN I) 465490306412)]) (pc' := 40) hk (.lcmp) 1 rfl rfl rfl ?_
      refine ev_d1 49 43 hk rfl rfl rfl rfl (px_lne hx (fun hc hx => ?_) (fun hc hx => ?_))
      · refine ev_ls (L' := [some (.ref 1), some (.ref g), some (.long (iN I)), none, none]) (st' := [.long (iN I)]) (pc' := 50) hk (.lload_n 2) 1 rfl rfl rfl rfl ?_
        refine ev_ldJ 6841709 53 hk rfl rfl rfl ?_
        refine ev_op (st' := [.int (lg_cmp (iN I) 6841709)]) (pc' := 54) hk (.lcmp) 1 rfl rfl rfl ?_
        refine ev_d1 63 57 hk rfl rfl rfl rfl (px_lne hx (fun hc hx => ?_) (fun hc hx => ?_))
        · refine ev_ls (L' := [some (.ref 1), some (.ref g), some (.long (iN I)), none, none]) (st' := [.long (iN I)]) (pc' := 64) hk (.lload_n 2) 1 rfl rfl rfl rfl ?_
          refine ev_ldJ 7562615 67 hk rfl rfl rfl ?_
          refine ev_op (st' := [.int (lg_cmp (iN I) 7562615)]) (pc' := 68) hk (.lcmp) 1 rfl rfl rfl ?_
          refine ev_d1 77 71 hk rfl rfl rfl rfl (px_lne hx (fun hc hx => ?_) (fun hc hx => ?_))
          · refine ev_ls (L' := [some (.ref 1), some (.ref g), some (.long (iN I)), none, none]) (st' := [.long (iN I)]) (pc' := 78) hk (.lload_n 2) 1 rfl rfl rfl rfl ?_
            refine ev_ldJ 7498096 81 hk rfl rfl rfl ?_
            refine ev_op (st' := [.int (lg_cmp (iN I) 7498096)]) (pc' := 82) hk (.lcmp) 1 rfl rfl rfl ?_
            refine ev_d1 91 85 hk rfl rfl rfl rfl (px_lne hx (fun hc hx => ?_) (fun hc hx => ?_))
            · refine ev_ls (L' := [some (.ref 1), some (.ref g), some (.long (iN I)), none, none]) (st' := [.long (iN I)]) (pc' := 92) hk (.lload_n 2) 1 rfl rfl rfl rfl ?_
              refine ev_ldJ 2002873451 95 hk rfl rfl rfl ?_
              refine ev_op (st' := [.int (lg_cmp (iN I) 2002873451)]) (pc' := 96) hk (.lcmp) 1 rfl rfl rfl ?_
              refine ev_d1 105 99 hk rfl rfl rfl rfl (px_lne hx (fun hc hx => ?_) (fun hc hx => ?_))
              · refine ev_ls (L' := [some (.ref 1), some (.ref g), some (.long (iN I)), none, none]) (st' := [.long (iN I)]) (pc' := 106) hk (.lload_n 2) 1 rfl rfl rfl rfl ?_
                refine ev_ldJ 127991944667492 109 hk rfl rfl rfl ?_
                refine ev_op (st' := [.int (lg_cmp (iN I) 127991944667492)]) (pc' := 110) hk (.lcmp) 1 rfl rfl rfl ?_
                refine ev_d1 119 113 hk rfl rfl rfl rfl (px_lne hx (fun hc hx => ?_) (fun hc hx => ?_))
                · refine ev_ls (L' := [some (.ref 1), some (.ref g), some (.long (iN I)), none, none]) (st' := [.long (iN I)]) (pc' := 120) hk (.lload_n 2) 1 rfl rfl rfl rfl ?_
                  refine ev_ldJ 1885434739 123 hk rfl rfl rfl ?_
                  refine ev_op (st' := [.int (lg_cmp (iN I) 1885434739)]) (pc' := 124) hk (.lcmp) 1 rfl rfl rfl ?_
                  refine ev_d1 162 127 hk rfl rfl rfl rfl (px_lne hx (fun hc hx => ?_) (fun hc hx => ?_))
                  · refine ev_ls (L' := [some (.ref 1), some (.ref g), some (.long (iN I)), none, none]) (st' := [.ref 1]) (pc' := 163) hk (.aload_n 0) 1 rfl rfl rfl rfl ?_
                    refine ev_op (st' := [.int 1, .ref 1]) (pc' := 164) hk (.iconst 1) 1 rfl rfl rfl ?_
                    obtain ⟨v2, I1, hc3, hx⟩ := bnd2_some hx
                    refine ev_cv 266 1 [.int (b2i v2)] 167 hk rfl rfl rfl rfl lk_input rfl rfl rfl (rI_fail hc3) rfl rfl rfl rfl ?_
                    cases hx
                    obtain rfl := hM
                    exact ev_retZ _ rfl hk rfl rfl
                  · refine ev_ls (L' := [some (.ref 1), some (.ref g), some (.long (iN I)), none, none]) (st' := [.ref 1]) (pc' := 128) hk (.aload_n 0) 1 rfl rfl rfl rfl ?_
                    refine ev_op (st' := [.int 1, .ref 1]) (pc' := 129) hk (.iconst 1) 1 rfl rfl rfl ?_
                    refine ev_op (st' := [.int 240, .int 1, .ref 1]) (pc' := 132) hk (.sipush 240) 3 rfl rfl rfl ?_
                    obtain ⟨v5, I4, hc6, hx⟩ := bnd2_some hx
                    refine ev_cv 263 2 [.int v5] 135 hk rfl rfl rfl rfl lk_input rfl rfl rfl (rI_expectNumber hc6) rfl rfl rfl rfl ?_
                    refine ev_ls (L' := [some (.ref 1), some (.ref g), some (.long (iN I)), none, some (.int v5)]) (st' := []) (pc' := 137) hk (.istore 4) 2 rfl rfl rfl rfl ?_
                    refine ev_ls (L' := [some (.ref 1), some (.ref g), some (.long (iN I)), none, some (.int v5)]) (st' := [.int v5]) (pc' := 139) hk (.iload 4) 2 rfl rfl rfl rfl ?_
                    refine ev_op (st' := [.int (-1), .int v5]) (pc' := 140) hk (.iconst (-1)) 1 rfl rfl rfl ?_
                    refine ev_d2 150 143 hk rfl rfl rfl rfl (px_ceq hx (fun hc hx => ?_) (fun hc hx => ?_))
                    · exact rD_readStatement_j150 hg hx hM (some (.ref 1)) rfl (some (.ref g)) rfl (some (.long (iN I)))
                    · refine ev_ls (L' := [some (.ref 1), some (.ref g), some (.long (iN I)), none, some (.int v5)]) (st' := [.ref g]) (pc' := 144) hk (.aload_n 1) 1 rfl rfl rfl rfl ?_
                      refine ev_ls (L' := [some (.ref 1), some (.ref g), some (.long (iN I)), none, some (.int v5)]) (st' := [.int v5, .ref g]) (pc' := 146) hk (.iload 4) 2 rfl rfl rfl rfl ?_
                      obtain ⟨v8, G7, hc9, hx⟩ := bnd2_some hx
                      refine ev_cv 234 1 [.int v8] 149 hk rfl rfl rfl rfl (lk_globe hg gup_same) rfl rfl rfl (rG_letPass hg hc9) rfl rfl rfl rfl ?_
                      refine ev_op (st' := []) (pc' := 150) hk (.pop) 1 rfl rfl rfl ?_
                      exact rD_readStatement_j150 hg hx hM (some (.ref 1)) rfl (some (.ref g)) rfl (some (.long (iN I)))
                · refine ev_ls (L' := [some (.ref 1), some (.ref g), some (.long (iN I)), none, none]) (st' := [.ref 1]) (pc' := 114) hk (.aload_n 0) 1 rfl rfl rfl rfl ?_
                  refine ev_ls (L' := [some (.ref 1), some (.ref g), some (.long (iN I)), none, none]) (st' := [.ref g, .ref 1]) (pc' := 115) hk (.aload_n 1) 1 rfl rfl rfl rfl ?_
                  obtain ⟨v12, I10, G11, hc13, hx⟩ := bnd3_some hx
                  refine ev_cs 211 2 [.int (b2i v12)] 118 hk rfl rfl (by decide) rfl rfl rfl (rD_readThread hg hc13) rfl rfl rfl rfl ?_
                  cases hx
                  obtain rfl := hM
                  exact ev_retZ _ rfl hk rfl rfl
              · refine ev_ls (L' := [some (.ref 1), some (.ref g), some (.long (iN I)), none, none]) (st' := [.ref 1]) (pc' := 100) hk (.aload_n 0) 1 rfl rfl rfl rfl ?_
                refine ev_ls (L' := [some (.ref 1), some (.ref g), some (.long (iN I)), none, none]) (st' := [.ref g, .ref 1]) (pc' := 101) hk (.aload_n 1) 1 rfl rfl rfl rfl ?_
                obtain ⟨v16, I14, G15, hc17, hx⟩ := bnd3_some hx
                refine ev_cs 212 2 [.int (b2i v16)] 104 hk rfl rfl (by decide) rfl rfl rfl (rD_readWalk hg hc17) rfl rfl rfl rfl ?_
                cases hx
                obtain rfl := hM
                exact ev_retZ _ rfl hk rfl rfl
            · refine ev_ls (L' := [some (.ref 1), some (.ref g), some (.long (iN I)), none, none]) (st' := [.ref 1]) (pc' := 86) hk (.aload_n 0) 1 rfl rfl rfl rfl ?_
              refine ev_ls (L' := [some (.ref 1), some (.ref g), some (.long (iN I)), none, none]) (st' := [.ref g, .ref 1]) (pc' := 87) hk (.aload_n 1) 1 rfl rfl rfl rfl ?_
              obtain ⟨v20, I18, G19, hc21, hx⟩ := bnd3_some hx
              refine ev_cs 207 2 [.int (b2i v20)] 90 hk rfl rfl (by decide) rfl rfl rfl (rD_readRip hg hc21) rfl rfl rfl rfl ?_
              cases hx
              obtain rfl := hM
              exact ev_retZ _ rfl hk rfl rfl
          · refine ev_ls (L' := [some (.ref 1), some (.ref g), some (.long (iN I)), none, none]) (st' := [.ref 1]) (pc' := 72) hk (.aload_n 0) 1 rfl rfl rfl rfl ?_
            refine ev_ls (L' := [some (.ref 1), some (.ref g), some (.long (iN I)), none, none]) (st' := [.ref g, .ref 1]) (pc' := 73) hk (.aload_n 1) 1 rfl rfl rfl rfl ?_
            obtain ⟨v24, I22, G23, hc25, hx⟩ := bnd3_some hx
            refine ev_cs 208 2 [.int (b2i v24)] 76 hk rfl rfl (by decide) rfl rfl rfl (rD_readSew hg hc25) rfl rfl rfl rfl ?_
            cases hx
            obtain rfl := hM
            exact ev_retZ _ rfl hk rfl rfl
        · refine ev_ls (L' := [some (.ref 1), some (.ref g), some (.long (iN I)), none, none]) (st' := [.ref 1]) (pc' := 58) hk (.aload_n 0) 1 rfl rfl rfl rfl ?_
          refine ev_ls (L' := [some (.ref 1), some (.ref g), some (.long (iN I)), none, none]) (st' := [.ref g, .ref 1]) (pc' := 59) hk (.aload_n 1) 1 rfl rfl rfl rfl ?_
          obtain ⟨v28, I26, G27, hc29, hx⟩ := bnd3_some hx
          refine ev_cs 205 2 [.int (b2i v28)] 62 hk rfl rfl (by decide) rfl rfl rfl (rD_readHem hg hc29) rfl rfl rfl rfl ?_
          cases hx
          obtain rfl := hM
          exact ev_retZ _ rfl hk rfl rfl
      · refine ev_ls (L' := [some (.ref 1), some (.ref g), some (.long (iN I)), none, none]) (st' := [.ref 1]) (pc' := 44) hk (.aload_n 0) 1 rfl rfl rfl rfl ?_
        refine ev_ls (L' := [some (.ref 1), some (.ref g), some (.long (iN I)), none, none]) (st' := [.ref g, .ref 1]) (pc' := 45) hk (.aload_n 1) 1 rfl rfl rfl rfl ?_
        obtain ⟨v32, I30, G31, hc33, hx⟩ := bnd3_some hx
        refine ev_cs 206 2 [.int (b2i v32)] 48 hk rfl rfl (by decide) rfl rfl rfl (rD_readLabel hg hc33) rfl rfl rfl rfl ?_
        cases hx
        obtain rfl := hM
        exact ev_retZ _ rfl hk rfl rfl
    · refine ev_ls (L' := [some (.ref 1), some (.ref g), some (.long (iN I)), none, none]) (st' := [.ref 1]) (pc' := 29) hk (.aload_n 0) 1 rfl rfl rfl rfl ?_
      refine ev_ls (L' := [some (.ref 1), some (.ref g), some (.long (iN I)), none, none]) (st' := [.ref g, .ref 1]) (pc' := 30) hk (.aload_n 1) 1 rfl rfl rfl rfl ?_
      refine ev_op (st' := [.int 1, .ref g, .ref 1]) (pc' := 31) hk (.iconst 1) 1 rfl rfl rfl ?_
      obtain ⟨v36, I34, G35, hc37, hx⟩ := bnd3_some hx
      refine ev_cs 209 3 [.int (b2i v36)] 34 hk rfl rfl (by decide) rfl rfl rfl (rD_readSpot hg hc37) rfl rfl rfl rfl ?_
      cases hx
      obtain rfl := hM
      exact ev_retZ _ rfl hk rfl rfl
  · refine ev_ls (L' := [some (.ref 1), some (.ref g), some (.long (iN I)), none, none]) (st' := [.ref 1]) (pc' := 14) hk (.aload_n 0) 1 rfl rfl rfl rfl ?_
    refine ev_ls (L' := [some (.ref 1), some (.ref g), some (.long (iN I)), none, none]) (st' := [.ref g, .ref 1]) (pc' := 15) hk (.aload_n 1) 1 rfl rfl rfl rfl ?_
    refine ev_op (st' := [.int 0, .ref g, .ref 1]) (pc' := 16) hk (.iconst 0) 1 rfl rfl rfl ?_
    obtain ⟨v40, I38, G39, hc41, hx⟩ := bnd3_some hx
    refine ev_cs 209 3 [.int (b2i v40)] 19 hk rfl rfl (by decide) rfl rfl rfl (rD_readSpot hg hc41) rfl rfl rfl rfl ?_
    cases hx
    obtain rfl := hM
    exact ev_retZ _ rfl hk rfl rfl
def qD_read_23 (S : Nat) (xs : Nat → Int32) (C : zC) (Y : Nat → Int32) (Γ : Nat → zG) (D : zD) (O : Nat → Int32) (M : zM) (ou : Nat → Int64) (od : Nat → UInt64) (j : Nat) (g : Nat) (y : (Option Value ⊕ String) × px_H) (s : zI × zG × Int32) : Prop := Ev S xs 204 23 [some (.ref 1), some (.ref g), some (.int s.2.2)] [] (zH s.1 C Y (gup Γ g s.2.1) D O M ou od j) y
set_option maxRecDepth 4000 in
theorem rD_read_b23 {S : Nat} {xs : Nat → Int32} {C : zC} {Y : Nat → Int32} {Γ : Nat → zG} {D : zD} {O : Nat → Int32} {M : zM} {ou : Nat → Int64} {od : Nat → UInt64} {j : Nat} {g : Nat}  {y : (Option Value ⊕ String) × px_H} {s : zI × zG × Int32} {x : (zI × zG × Int32) ⊕ (Bool × zI × zG)} (hg : isG g) (hx : fD_read_b23 s.1 s.2.1 s.2.2 = some x) (hM : (Sum.elim (qD_read_23 S xs C Y Γ D O M ou od j g y) (fun X : Bool × zI × zG => y = (((.inl (some (.int (b2i X.1)))), (zH X.2.1 C Y (gup Γ g X.2.2) D O M ou od j)) : (Option Value ⊕ String) × px_H))) x) : qD_read_23 S xs C Y Γ D O M ou od j g y s := by
  obtain ⟨I, G, a2⟩ := s
  have hk : pt_mt[204]? = some pt_r204 := rfl
  unfold fD_read_b23 at hx
  try dsimp only at hx
  refine ev_ls (L' := [some (.ref 1), some (.ref g), some (.int a2)]) (st' := [.int a2]) (pc' := 24) hk (.iload_n 2) 1 rfl rfl rfl rfl ?_
  refine ev_op (st' := [.int 600, .int a2]) (pc' := 27) hk (.sipush 600) 3 rfl rfl rfl ?_
  refine ev_d2 68 30 hk rfl rfl rfl rfl (px_cgt hx (fun hc hx => ?_) (fun hc hx => ?_))
  · refine ev_ls (L' := [some (.ref 1), some (.ref g), some (.int a2)]) (st' := [.ref 1]) (pc' := 69) hk (.aload_n 0) 1 rfl rfl rfl rfl ?_
    refine ev_op (st' := [.int 1, .ref 1]) (pc' := 70) hk (.iconst 1) 1 rfl rfl rfl ?_
    obtain ⟨v2, I1, hc3, hx⟩ := bnd2_some hx
    refine ev_cv 266 1 [.int (b2i v2)] 73 hk rfl rfl rfl rfl lk_input rfl rfl rfl (rI_fail hc3) rfl rfl rfl rfl ?_
    cases hx
    obtain rfl := hM
    exact ev_retZ _ rfl hk rfl rfl
  · refine ev_ls (L' := [some (.ref 1), some (.ref g), some (.int a2)]) (st' := [.ref 1]) (pc' := 31) hk (.aload_n 0) 1 rfl rfl rfl rfl ?_
    obtain ⟨I4, hc5, hx⟩ := bnd_some hx
    refine ev_cv 273 0 [] 34 hk rfl rfl rfl rfl lk_input rfl rfl rfl (rI_next hc5) rfl rfl rfl rfl ?_
    refine ev_ls (L' := [some (.ref 1), some (.ref g), some (.int a2)]) (st' := [.ref 1]) (pc' := 35) hk (.aload_n 0) 1 rfl rfl rfl rfl ?_
    refine ev_gf (.int (iF I4 4)) 38 hk rfl rfl lk_input rfl rfl ?_
    refine ev_d1 43 41 hk rfl rfl rfl rfl (px_cne hx (fun hc hx => ?_) (fun hc hx => ?_))
    · refine ev_ls (L' := [some (.ref 1), some (.ref g), some (.int a2)]) (st' := [.ref 1]) (pc' := 44) hk (.aload_n 0) 1 rfl rfl rfl rfl ?_
      refine ev_ls (L' := [some (.ref 1), some (.ref g), some (.int a2)]) (st' := [.ref g, .ref 1]) (pc' := 45) hk (.aload_n 1) 1 rfl rfl rfl rfl ?_
      obtain ⟨v8, I6, G7, hc9, hx⟩ := bnd3_some hx
      refine ev_cs 210 2 [.int (b2i v8)] 48 hk rfl rfl (by decide) rfl rfl rfl (rD_readStatement hg hc9) rfl rfl rfl rfl ?_
      refine ev_d1 60 51 hk rfl rfl rfl rfl (px_beq hx (fun hc hx => ?_) (fun hc hx => ?_))
      · refine ev_op (st' := [.int 0]) (pc' := 61) hk (.iconst 0) 1 rfl rfl rfl ?_
        cases hx
        obtain rfl := hM
        exact ev_retZ false rfl hk rfl rfl
      · refine ev_ls (L' := [some (.ref 1), some (.ref g), some (.int a2)]) (st' := [.ref 1]) (pc' := 52) hk (.aload_n 0) 1 rfl rfl rfl rfl ?_
        refine ev_op (st' := [.int 59, .ref 1]) (pc' := 54) hk (.bipush 59) 2 rfl rfl rfl ?_
        obtain ⟨v11, I10, hc12, hx⟩ := bnd2_some hx
        refine ev_cv 264 1 [.int (b2i v11)] 57 hk rfl rfl rfl rfl lk_input rfl rfl rfl (rI_expectSign hc12) rfl rfl rfl rfl ?_
        refine ev_d1 62 60 hk rfl rfl rfl rfl (px_bne hx (fun hc hx => ?_) (fun hc hx => ?_))
        · refine ev_ls (L' := [some (.ref 1), some (.ref g), some (.int (a2 + 1))]) (st' := []) (pc' := 65) hk (.iinc 2 1) 3 rfl rfl rfl rfl ?_
          refine ev_jp (pc' := 23) (st' := []) hk (.goto (-42)) 3 rfl rfl rfl rfl rfl ?_
          cases hx
          exact hM
        · refine ev_op (st' := [.int 0]) (pc' := 61) hk (.iconst 0) 1 rfl rfl rfl ?_
          cases hx
          obtain rfl := hM
          exact ev_retZ false rfl hk rfl rfl
    · refine ev_op (st' := [.int 1]) (pc' := 42) hk (.iconst 1) 1 rfl rfl rfl ?_
      cases hx
      obtain rfl := hM
      exact ev_retZ true rfl hk rfl rfl
set_option maxRecDepth 2000 in
theorem rD_read {S : Nat} {xs : Nat → Int32} {I : zI} {C : zC} {Y : Nat → Int32} {Γ : Nat → zG} {D : zD} {O : Nat → Int32} {M : zM} {ou : Nat → Int64} {od : Nat → UInt64} {j : Nat} {g : Nat} {G : zG}  {X : Bool × zI × zG}  (hg : isG g) (hx : fD_read I G = some X) : Ev S xs 204 0 [some (.ref 1), some (.ref g), none] [] (zH I C Y (gup Γ g G) D O M ou od j) (((.inl (some (.int (b2i X.1)))), (zH X.2.1 C Y (gup Γ g X.2.2) D O M ou od j)) : (Option Value ⊕ String) × px_H) := by
  generalize hM : (((.inl (some (.int (b2i X.1)))), (zH X.2.1 C Y (gup Γ g X.2.2) D O M ou od j)) : (Option Value ⊕ String) × px_H) = y
  replace hM := hM.symm
  have hk : pt_mt[204]? = some pt_r204 := rfl
  unfold fD_read at hx
  refine ev_ls (L' := [some (.ref 1), some (.ref g), none]) (st' := [.ref g]) (pc' := 1) hk (.aload_n 1) 1 rfl rfl rfl rfl ?_
  obtain ⟨G13, hc14, hx⟩ := bnd_some hx
  refine ev_cv 216 0 [] 4 hk rfl rfl rfl rfl (lk_globe hg gup_same) rfl rfl rfl (rG_clear hg hc14) rfl rfl rfl rfl ?_
  refine ev_ls (L' := [some (.ref 1), some (.ref g), none]) (st' := [.ref 1]) (pc' := 5) hk (.aload_n 0) 1 rfl rfl rfl rfl ?_
  obtain ⟨I15, hc16, hx⟩ := bnd_some hx
  refine ev_cv 274 0 [] 8 hk rfl rfl rfl rfl lk_input rfl rfl rfl (rI_start hc16) rfl rfl rfl rfl ?_
  refine ev_ls (L' := [some (.ref 1), some (.ref g), none]) (st' := [.ref 1]) (pc' := 9) hk (.aload_n 0) 1 rfl rfl rfl rfl ?_
  refine ev_ls (L' := [some (.ref 1), some (.ref g), none]) (st' := [.ref g, .ref 1]) (pc' := 10) hk (.aload_n 1) 1 rfl rfl rfl rfl ?_
  refine ev_gf (.ref (g + 1)) 13 hk rfl rfl (lk_globe hg gup_same) rfl rfl ?_
  obtain ⟨v19, I17, G18, hc20, hx⟩ := bnd3_some hx
  refine ev_cs 213 2 [.int (b2i v19)] 16 hk rfl rfl (by decide) rfl rfl rfl (rD_readWidths hg hc20) rfl rfl rfl rfl ?_
  refine ev_d1 21 19 hk rfl rfl rfl rfl (px_bne hx (fun hc hx => ?_) (fun hc hx => ?_))
  · refine ev_op (st' := [.int 0]) (pc' := 22) hk (.iconst 0) 1 rfl rfl rfl ?_
    refine ev_ls (L' := [some (.ref 1), some (.ref g), some (.int 0)]) (st' := []) (pc' := 23) hk (.istore_n 2) 1 rfl rfl rfl rfl ?_
    exact ev_iter (qD_read_23 S xs C Y Γ D O M ou od j g _) (fun X : Bool × zI × zG => y = (((.inl (some (.int (b2i X.1)))), (zH X.2.1 C Y (gup Γ g X.2.2) D O M ou od j)) : (Option Value ⊕ String) × px_H)) (fun s x hb hM => rD_read_b23 hg hb hM) fu _ _ hx hM 
  · refine ev_op (st' := [.int 0]) (pc' := 20) hk (.iconst 0) 1 rfl rfl rfl ?_
    cases hx
    obtain rfl := hM
    exact ev_retZ false rfl hk rfl rfl
set_option maxRecDepth 2000 in
theorem rX_readText {S : Nat} {xs : Nat → Int32} {I : zI} {C : zC} {Y : Nat → Int32} {Γ : Nat → zG} {D : zD} {O : Nat → Int32} {M : zM} {ou : Nat → Int64} {od : Nat → UInt64} {j : Nat}  {X : (Int32 ⊕ String) × zI × (Nat → Int32) × (Nat → zG)}   (hx : fX_readText I Y Γ = some X) : Ev S xs 349 0 [some (.ref 0), none] [] (zH I C Y Γ D O M ou od j) (Sum.elim (fun v => ((.inl (some (.int v))), (zH X.2.1 C X.2.2.1 X.2.2.2 D O M ou od j))) (fun E => (.inr E, (zH X.2.1 C X.2.2.1 X.2.2.2 D O M ou od (j + 1)))) X.1 : (Option Value ⊕ String) × px_H) := by
  generalize hM : (Sum.elim (fun v => ((.inl (some (.int v))), (zH X.2.1 C X.2.2.1 X.2.2.2 D O M ou od j))) (fun E => (.inr E, (zH X.2.1 C X.2.2.1 X.2.2.2 D O M ou od (j + 1)))) X.1 : (Option Value ⊕ String) × px_H) = y
  replace hM := hM.symm
  have hk : pt_mt[349]? = some pt_r349 := rfl
  unfold fX_readText at hx
  refine ev_ls (L' := [some (.ref 0), none]) (st' := [.ref 0]) (pc' := 1) hk (.aload_n 0) 1 rfl rfl rfl rfl ?_
  refine ev_gf (.ref 1) 4 hk rfl rfl lk_dh rfl rfl ?_
  refine ev_ls (L' := [some (.ref 0), none]) (st' := [.ref 0, .ref 1]) (pc' := 5) hk (.aload_n 0) 1 rfl rfl rfl rfl ?_
  refine ev_gf (.ref 36) 8 hk rfl rfl lk_dh rfl rfl ?_
  obtain ⟨v4, I2, G3, hc5, hx⟩ := bnd3_some hx
  refine ev_cs 204 2 [.int (b2i v4)] 11 hk rfl rfl (by decide) rfl rfl rfl (ev_gs (rD_read isG_36 hc5)) rfl rfl rfl rfl ?_
  refine ev_ls (L' := [some (.ref 0), some (.int (b2i v4))]) (st' := []) (pc' := 12) hk (.istore_n 1) 1 rfl rfl rfl rfl ?_
  refine ev_ls (L' := [some (.ref 0), some (.int (b2i v4))]) (st' := [.ref 0]) (pc' := 13) hk (.aload_n 0) 1 rfl rfl rfl rfl ?_
  refine ev_gf (.ref 1) 16 hk rfl rfl lk_dh rfl rfl ?_
  refine ev_op (st' := [.int 0, .ref 1]) (pc' := 17) hk (.iconst 0) 1 rfl rfl rfl ?_
  obtain ⟨I6, hI6, hx⟩ := bnd_some hx
  have hI6 := Option.some.inj hI6
  refine ev_pf 20 hk rfl rfl lk_input rfl rfl rfl (sf_3_1 hI6) rfl ?_
  refine ev_ls (L' := [some (.ref 0), some (.int (b2i v4))]) (st' := [.int (b2i v4)]) (pc' := 21) hk (.iload_n 1) 1 rfl rfl rfl rfl ?_
  refine ev_d1 34 24 hk rfl rfl rfl rfl (px_bne hx (fun hc hx => ?_) (fun hc hx => ?_))
  · refine ev_ls (L' := [some (.ref 0), some (.int (b2i v4))]) (st' := [.ref 0]) (pc' := 35) hk (.aload_n 0) 1 rfl rfl rfl rfl ?_
    refine ev_gf (.ref 10) 38 hk rfl rfl lk_dh rfl rfl ?_
    refine ev_ls (L' := [some (.ref 0), some (.int (b2i v4))]) (st' := [.ref 0, .ref 10]) (pc' := 39) hk (.aload_n 0) 1 rfl rfl rfl rfl ?_
    refine ev_gf (.ref 36) 42 hk rfl rfl lk_dh rfl rfl ?_
    obtain ⟨G7, hc8, hx⟩ := bnd_some hx
    refine ev_cv 217 1 [] 45 hk rfl rfl rfl rfl (lk_globe isG_10 rfl) rfl rfl rfl (ev_gs (rG_copyFrom isG_10 isG_36 (by decide) rfl hc8)) rfl rfl rfl rfl ?_
    refine ev_ls (L' := [some (.ref 0), some (.int (b2i v4))]) (st' := [.ref 0]) (pc' := 46) hk (.aload_n 0) 1 rfl rfl rfl rfl ?_
    refine ev_gf (.ref 88) 49 hk rfl rfl lk_dh rfl rfl ?_
    obtain ⟨Y9, hc10, hx⟩ := bnd_some hx
    refine ev_cv 258 0 [] 52 hk rfl rfl rfl rfl lk_hist rfl rfl rfl (rY_forget hc10) rfl rfl rfl rfl ?_
    refine ev_ls (L' := [some (.ref 0), some (.int (b2i v4))]) (st' := [.ref 0]) (pc' := 53) hk (.aload_n 0) 1 rfl rfl rfl rfl ?_
    refine ev_gf (.ref 10) 56 hk rfl rfl lk_dh rfl rfl ?_
    refine ev_gf (.int (gF ((gup (gup Γ 36 G3) 10 G7) 10) 0 4)) 59 hk rfl rfl (lk_globe isG_10 rfl) rfl rfl ?_
    cases hx
    obtain rfl := hM
    exact ev_retI hk rfl rfl
  · cases hx
    obtain rfl := hM
    exact ev_tw hk rfl (by rfl) rfl zH_j
set_option maxRecDepth 2000 in
theorem rw_readText {S : Nat} {xs : Nat → Int32} {I : zI} {C : zC} {Y : Nat → Int32} {Γ : Nat → zG} {D : zD} {O : Nat → Int32} {M : zM} {ou : Nat → Int64} {od : Nat → UInt64} {j : Nat}  {X : Int32 × zI × (Nat → Int32) × (Nat → zG) × (Nat → Int64) × Nat}   (hx : fw_readText I Y Γ ou j = some X) : Ev S xs 399 0 [some (.ref 0), some (.ref 261), none] [] (zH I C Y Γ D O M ou od j) (((.inl (some (.int X.1))), (zH X.2.1 C X.2.2.1 X.2.2.2.1 D O M X.2.2.2.2.1 od X.2.2.2.2.2)) : (Option Value ⊕ String) × px_H) := by
  generalize hM : (((.inl (some (.int X.1))), (zH X.2.1 C X.2.2.1 X.2.2.2.1 D O M X.2.2.2.2.1 od X.2.2.2.2.2)) : (Option Value ⊕ String) × px_H) = y
  replace hM := hM.symm
  have hk : pt_mt[399]? = some pt_r399 := rfl
  unfold fw_readText at hx
  refine ev_ls (L' := [some (.ref 0), some (.ref 261), none]) (st' := [.ref 261]) (pc' := 1) hk (.aload_n 1) 1 rfl rfl rfl rfl ?_
  refine ev_op (st' := [.int 0, .ref 261]) (pc' := 2) hk (.iconst 0) 1 rfl rfl rfl ?_
  refine ev_ls (L' := [some (.ref 0), some (.ref 261), none]) (st' := [.ref 0, .int 0, .ref 261]) (pc' := 3) hk (.aload_n 0) 1 rfl rfl rfl rfl ?_
  obtain ⟨r9, I2, Y3, Γ4, hc5, hx⟩ := bnd4_some hx
  rcases r9 with v7 | E6
  · simp only [Sum.elim_inl] at hx
    refine ev_cv 349 0 [.int v7, .int 0, .ref 261] 6 hk rfl rfl rfl rfl lk_dh rfl rfl rfl (rX_readText hc5) rfl rfl rfl rfl ?_
    refine ev_op (st' := [.long (Int32.toInt64 v7), .int 0, .ref 261]) (pc' := 7) hk (.i2l) 1 rfl rfl rfl ?_
    obtain ⟨ou8, hou8, hx⟩ := bnd_some hx
    have hou8 := Option.some.inj hou8
    refine ev_las (A := (vp_updL ou 0 (Int32.toInt64 v7))) rfl 8 hk rfl lk_ou (sa_ou hou8) rfl ?_
    refine ev_jp (pc' := 14) (st' := []) hk (.goto 6) 3 rfl rfl rfl rfl rfl ?_
    refine ev_op (st' := [.int 0]) (pc' := 15) hk (.iconst 0) 1 rfl rfl rfl ?_
    cases hx
    obtain rfl := hM
    exact ev_retI hk rfl rfl
  · simp only [Sum.elim_inr] at hx
    rcases ite_or hx with ⟨hE, hx⟩ | ⟨hE, hx⟩
    · subst hE
      refine ev_cvC 349 0 12 hk rfl rfl rfl rfl lk_dh rfl rfl rfl (t := 11) (by decide +kernel) (L' := [some (.ref 0), some (.ref 261), none]) rfl (rX_readText hc5) rfl rfl ?_
      refine ev_op (st' := [.int 1]) (pc' := 13) hk (.iconst 1) 1 rfl rfl rfl ?_
      cases hx
      obtain rfl := hM
      exact ev_retI hk rfl rfl
    cases hx
def qM_begins_2 (S : Nat) (xs : Nat → Int32) (I : zI) (C : zC) (Y : Nat → Int32) (Γ : Nat → zG) (D : zD) (O : Nat → Int32) (ou : Nat → Int64) (od : Nat → UInt64) (j : Nat) (y : (Option Value ⊕ String) × px_H) (s : zM × Int32) : Prop := Ev S xs 28 2 [some (.ref 247), some (.int s.2)] [] (zH I C Y Γ D O s.1 ou od j) y
def qM_begins_33 (S : Nat) (xs : Nat → Int32) (I : zI) (C : zC) (Y : Nat → Int32) (Γ : Nat → zG) (D : zD) (O : Nat → Int32) (ou : Nat → Int64) (od : Nat → UInt64) (j : Nat) (y : (Option Value ⊕ String) × px_H) (s : zM × Int32) : Prop := Ev S xs 28 33 [some (.ref 247), some (.int s.2)] [] (zH I C Y Γ D O s.1 ou od j) y
set_option maxRecDepth 4000 in
theorem rM_begins_b33 {S : Nat} {xs : Nat → Int32} {I : zI} {C : zC} {Y : Nat → Int32} {Γ : Nat → zG} {D : zD} {O : Nat → Int32} {ou : Nat → Int64} {od : Nat → UInt64} {j : Nat}  {y : (Option Value ⊕ String) × px_H} {s : zM × Int32} {x : (zM × Int32) ⊕ (zM)}  (hx : fM_begins_b33 s.1 s.2 = some x) (hM : (Sum.elim (qM_begins_33 S xs I C Y Γ D O ou od j y) (fun X : zM => y = (((.inl none), (zH I C Y Γ D O X ou od j)) : (Option Value ⊕ String) × px_H))) x) : qM_begins_33 S xs I C Y Γ D O ou od j y s := by
  obtain ⟨M, a1⟩ := s
  have hk : pt_mt[28]? = some pt_r28 := rfl
  unfold fM_begins_b33 at hx
  try dsimp only at hx
  refine ev_ls (L' := [some (.ref 247), some (.int a1)]) (st' := [.int a1]) (pc' := 34) hk (.iload_n 1) 1 rfl rfl rfl rfl ?_
  refine ev_op (st' := [.int 9, .int a1]) (pc' := 36) hk (.bipush 9) 2 rfl rfl rfl ?_
  refine ev_d2 56 39 hk rfl rfl rfl rfl (px_cge hx (fun hc hx => ?_) (fun hc hx => ?_))
  · cases hx
    obtain rfl := hM
    exact ev_retv hk rfl rfl
  · refine ev_ls (L' := [some (.ref 247), some (.int a1)]) (st' := [.ref 247]) (pc' := 40) hk (.aload_n 0) 1 rfl rfl rfl rfl ?_
    refine ev_gf (.ref 249) 43 hk rfl rfl lk_model rfl rfl ?_
    refine ev_op (st' := [.int 5, .ref 249]) (pc' := 44) hk (.iconst 5) 1 rfl rfl rfl ?_
    refine ev_ls (L' := [some (.ref 247), some (.int a1)]) (st' := [.int a1, .int 5, .ref 249]) (pc' := 45) hk (.iload_n 1) 1 rfl rfl rfl rfl ?_
    refine ev_op (st' := [.int (5 + a1), .ref 249]) (pc' := 46) hk (.iadd) 1 rfl rfl rfl ?_
    refine ev_op (st' := [.int 180, .int (5 + a1), .ref 249]) (pc' := 49) hk (.sipush 180) 3 rfl rfl rfl ?_
    obtain ⟨A13, hA13, hx⟩ := bnd_some hx
    obtain ⟨M14, hM14, hx⟩ := bnd_some hx
    have hM14 := Option.some.inj hM14
    refine ev_ias hA13 50 hk rfl lk_m249 (sa_m249 hM14) rfl ?_
    refine ev_ls (L' := [some (.ref 247), some (.int (a1 + 1))]) (st' := []) (pc' := 53) hk (.iinc 1 1) 3 rfl rfl rfl rfl ?_
    refine ev_jp (pc' := 33) (st' := []) hk (.goto (-20)) 3 rfl rfl rfl rfl rfl ?_
    cases hx
    exact hM
set_option maxRecDepth 4000 in
theorem rM_begins_b2 {S : Nat} {xs : Nat → Int32} {I : zI} {C : zC} {Y : Nat → Int32} {Γ : Nat → zG} {D : zD} {O : Nat → Int32} {ou : Nat → Int64} {od : Nat → UInt64} {j : Nat}  {y : (Option Value ⊕ String) × px_H} {s : zM × Int32} {x : (zM × Int32) ⊕ (zM)}  (hx : fM_begins_b2 s.1 s.2 = some x) (hM : (Sum.elim (qM_begins_2 S xs I C Y Γ D O ou od j y) (fun X : zM => y = (((.inl none), (zH I C Y Γ D O X ou od j)) : (Option Value ⊕ String) × px_H))) x) : qM_begins_2 S xs I C Y Γ D O ou od j y s := by
  obtain ⟨M, a1⟩ := s
  have hk : pt_mt[28]? = some pt_r28 := rfl
  unfold fM_begins_b2 at hx
  try dsimp only at hx
  refine ev_ls (L' := [some (.ref 247), some (.int a1)]) (st' := [.int a1]) (pc' := 3) hk (.iload_n 1) 1 rfl rfl rfl rfl ?_
  refine ev_op (st' := [.int 160, .int a1]) (pc' := 6) hk (.sipush 160) 3 rfl rfl rfl ?_
  refine ev_d2 22 9 hk rfl rfl rfl rfl (px_cge hx (fun hc hx => ?_) (fun hc hx => ?_))
  · refine ev_ls (L' := [some (.ref 247), some (.int a1)]) (st' := [.ref 247]) (pc' := 23) hk (.aload_n 0) 1 rfl rfl rfl rfl ?_
    refine ev_gf (.ref 249) 26 hk rfl rfl lk_model rfl rfl ?_
    refine ev_op (st' := [.int 3, .ref 249]) (pc' := 27) hk (.iconst 3) 1 rfl rfl rfl ?_
    refine ev_op (st' := [.int 500, .int 3, .ref 249]) (pc' := 30) hk (.sipush 500) 3 rfl rfl rfl ?_
    obtain ⟨M10, hM10, hx⟩ := bnd_some hx
    have hM10 := Option.some.inj hM10
    refine ev_ias (A := (upd (mA M 249) 3 500)) rfl 31 hk rfl lk_m249 (sa_m249 hM10) rfl ?_
    refine ev_op (st' := [.int 0]) (pc' := 32) hk (.iconst 0) 1 rfl rfl rfl ?_
    refine ev_ls (L' := [some (.ref 247), some (.int 0)]) (st' := []) (pc' := 33) hk (.istore_n 1) 1 rfl rfl rfl rfl ?_
    obtain ⟨X, hx2, hX⟩ := Option.map_eq_some_iff.mp hx
    clear hx; subst hX; have hx := hx2; clear hx2
    exact ev_iter (qM_begins_33 S xs I C Y Γ D O ou od j _) (fun X : zM => y = (((.inl none), (zH I C Y Γ D O X ou od j)) : (Option Value ⊕ String) × px_H)) (fun s x hb hM => rM_begins_b33 hb hM) fu _ _ hx hM 
  · refine ev_ls (L' := [some (.ref 247), some (.int a1)]) (st' := [.ref 247]) (pc' := 10) hk (.aload_n 0) 1 rfl rfl rfl rfl ?_
    refine ev_gf (.ref 249) 13 hk rfl rfl lk_model rfl rfl ?_
    refine ev_ls (L' := [some (.ref 247), some (.int a1)]) (st' := [.int a1, .ref 249]) (pc' := 14) hk (.iload_n 1) 1 rfl rfl rfl rfl ?_
    refine ev_op (st' := [.int 0, .int a1, .ref 249]) (pc' := 15) hk (.iconst 0) 1 rfl rfl rfl ?_
    obtain ⟨A11, hA11, hx⟩ := bnd_some hx
    obtain ⟨M12, hM12, hx⟩ := bnd_some hx
    have hM12 := Option.some.inj hM12
    refine ev_ias hA11 16 hk rfl lk_m249 (sa_m249 hM12) rfl ?_
    refine ev_ls (L' := [some (.ref 247), some (.int (a1 + 1))]) (st' := []) (pc' := 19) hk (.iinc 1 1) 3 rfl rfl rfl rfl ?_
    refine ev_jp (pc' := 2) (st' := []) hk (.goto (-17)) 3 rfl rfl rfl rfl rfl ?_
    cases hx
    exact hM
set_option maxRecDepth 2000 in
theorem rM_begins {S : Nat} {xs : Nat → Int32} {I : zI} {C : zC} {Y : Nat → Int32} {Γ : Nat → zG} {D : zD} {O : Nat → Int32} {M : zM} {ou : Nat → Int64} {od : Nat → UInt64} {j : Nat}  {X : zM}   (hx : fM_begins M = some X) : Ev S xs 28 0 [some (.ref 247), none] [] (zH I C Y Γ D O M ou od j) (((.inl none), (zH I C Y Γ D O X ou od j)) : (Option Value ⊕ String) × px_H) := by
  generalize hM : (((.inl none), (zH I C Y Γ D O X ou od j)) : (Option Value ⊕ String) × px_H) = y
  replace hM := hM.symm
  have hk : pt_mt[28]? = some pt_r28 := rfl
  unfold fM_begins at hx
  refine ev_op (st' := [.int 0]) (pc' := 1) hk (.iconst 0) 1 rfl rfl rfl ?_
  refine ev_ls (L' := [some (.ref 247), some (.int 0)]) (st' := []) (pc' := 2) hk (.istore_n 1) 1 rfl rfl rfl rfl ?_
  exact ev_iter (qM_begins_2 S xs I C Y Γ D O ou od j _) (fun X : zM => y = (((.inl none), (zH I C Y Γ D O X ou od j)) : (Option Value ⊕ String) × px_H)) (fun s x hb hM => rM_begins_b2 hb hM) fu _ _ hx hM 
set_option maxRecDepth 4000 in
theorem rM_mustWord_j20 {S : Nat} {xs : Nat → Int32} {I : zI} {C : zC} {Y : Nat → Int32} {Γ : Nat → zG} {D : zD} {O : Nat → Int32} {M : zM} {ou : Nat → Int64} {od : Nat → UInt64} {j : Nat}  {y : (Option Value ⊕ String) × px_H} {x : zM}  (hx : fM_mustWord_j20 M = some x) (hM : (fun X : zM => y = (((.inl none), (zH I C Y Γ D O X ou od j)) : (Option Value ⊕ String) × px_H)) x) (u1 : Option Value) : Ev S xs 140 20 [some (.ref 247), u1, none] [] (zH I C Y Γ D O M ou od j) y := by
  have hk : pt_mt[140]? = some pt_r140 := rfl
  unfold fM_mustWord_j20 at hx
  refine ev_ls (L' := [some (.ref 247), u1, none]) (st' := [.ref 247]) (pc' := 21) hk (.aload_n 0) 1 rfl rfl rfl rfl ?_
  refine ev_cv 84 0 [.int (b2i (fM_isGood M))] 24 hk rfl rfl rfl rfl lk_model rfl rfl rfl (rM_isGood rfl) rfl rfl rfl rfl ?_
  refine ev_d1 31 27 hk rfl rfl rfl rfl (px_beq hx (fun hc hx => ?_) (fun hc hx => ?_))
  · cases hx
    obtain rfl := hM
    exact ev_retv hk rfl rfl
  · refine ev_ls (L' := [some (.ref 247), u1, none]) (st' := [.ref 247]) (pc' := 28) hk (.aload_n 0) 1 rfl rfl rfl rfl ?_
    obtain ⟨M1, hc2, hx⟩ := bnd_some hx
    refine ev_cv 58 0 [] 31 hk rfl rfl rfl rfl lk_model rfl rfl rfl (rM_goOnRead hc2) rfl rfl rfl rfl ?_
    cases hx
    obtain rfl := hM
    exact ev_retv hk rfl rfl
set_option maxRecDepth 2000 in
theorem rM_mustWord {S : Nat} {xs : Nat → Int32} {I : zI} {C : zC} {Y : Nat → Int32} {Γ : Nat → zG} {D : zD} {O : Nat → Int32} {M : zM} {ou : Nat → Int64} {od : Nat → UInt64} {j : Nat} {a1 : Int64} {X : zM}   (hx : fM_mustWord M a1 = some X) : Ev S xs 140 0 [some (.ref 247), some (.long a1), none] [] (zH I C Y Γ D O M ou od j) (((.inl none), (zH I C Y Γ D O X ou od j)) : (Option Value ⊕ String) × px_H) := by
  generalize hM : (((.inl none), (zH I C Y Γ D O X ou od j)) : (Option Value ⊕ String) × px_H) = y
  replace hM := hM.symm
  have hk : pt_mt[140]? = some pt_r140 := rfl
  unfold fM_mustWord at hx
  refine ev_ls (L' := [some (.ref 247), some (.long a1), none]) (st' := [.ref 247]) (pc' := 1) hk (.aload_n 0) 1 rfl rfl rfl rfl ?_
  refine ev_cv 84 0 [.int (b2i (fM_isGood M))] 4 hk rfl rfl rfl rfl lk_model rfl rfl rfl (rM_isGood rfl) rfl rfl rfl rfl ?_
  refine ev_d1 20 7 hk rfl rfl rfl rfl (px_beq hx (fun hc hx => ?_) (fun hc hx => ?_))
  · exact rM_mustWord_j20 hx hM (some (.long a1))
  · refine ev_ls (L' := [some (.ref 247), some (.long a1), none]) (st' := [.ref 247]) (pc' := 8) hk (.aload_n 0) 1 rfl rfl rfl rfl ?_
    refine ev_ls (L' := [some (.ref 247), some (.long a1), none]) (st' := [.long a1, .ref 247]) (pc' := 9) hk (.lload_n 1) 1 rfl rfl rfl rfl ?_
    refine ev_cv 102 1 [.int (b2i (fM_isWord M a1))] 12 hk rfl rfl rfl rfl lk_model rfl rfl rfl (rM_isWord rfl) rfl rfl rfl rfl ?_
    refine ev_d1 20 15 hk rfl rfl rfl rfl (px_bne hx (fun hc hx => ?_) (fun hc hx => ?_))
    · exact rM_mustWord_j20 hx hM (some (.long a1))
    · refine ev_ls (L' := [some (.ref 247), some (.long a1), none]) (st' := [.ref 247]) (pc' := 16) hk (.aload_n 0) 1 rfl rfl rfl rfl ?_
      refine ev_op (st' := [.int 1, .ref 247]) (pc' := 17) hk (.iconst 1) 1 rfl rfl rfl ?_
      obtain ⟨M3, hc4, hx⟩ := bnd_some hx
      refine ev_cv 203 1 [] 20 hk rfl rfl rfl rfl lk_model rfl rfl rfl (rM_wrong hc4) rfl rfl rfl rfl ?_
      exact rM_mustWord_j20 hx hM (some (.long a1))
set_option maxRecDepth 2000 in
theorem rM_stays {S : Nat} {xs : Nat → Int32} {I : zI} {C : zC} {Y : Nat → Int32} {Γ : Nat → zG} {D : zD} {O : Nat → Int32} {M : zM} {ou : Nat → Int64} {od : Nat → UInt64} {j : Nat} {a1 : Int32} {a2 : Int32} {X : Int32 × zM}   (hx : fM_stays M a1 a2 = some X) : Ev S xs 170 0 [some (.ref 247), some (.int a1), some (.int a2)] [] (zH I C Y Γ D O M ou od j) (((.inl (some (.int X.1))), (zH I C Y Γ D O X.2 ou od j)) : (Option Value ⊕ String) × px_H) := by
  generalize hM : (((.inl (some (.int X.1))), (zH I C Y Γ D O X.2 ou od j)) : (Option Value ⊕ String) × px_H) = y
  replace hM := hM.symm
  have hk : pt_mt[170]? = some pt_r170 := rfl
  unfold fM_stays at hx
  refine ev_ls (L' := [some (.ref 247), some (.int a1), some (.int a2)]) (st' := [.ref 247]) (pc' := 1) hk (.aload_n 0) 1 rfl rfl rfl rfl ?_
  refine ev_cv 84 0 [.int (b2i (fM_isGood M))] 4 hk rfl rfl rfl rfl lk_model rfl rfl rfl (rM_isGood rfl) rfl rfl rfl rfl ?_
  refine ev_d1 16 7 hk rfl rfl rfl rfl (px_beq hx (fun hc hx => ?_) (fun hc hx => ?_))
  · refine ev_ls (L' := [some (.ref 247), some (.int a1), some (.int a2)]) (st' := [.int a1]) (pc' := 17) hk (.iload_n 1) 1 rfl rfl rfl rfl ?_
    cases hx
    obtain rfl := hM
    exact ev_retI hk rfl rfl
  · refine ev_ls (L' := [some (.ref 247), some (.int a1), some (.int a2)]) (st' := [.ref 247]) (pc' := 8) hk (.aload_n 0) 1 rfl rfl rfl rfl ?_
    refine ev_ls (L' := [some (.ref 247), some (.int a1), some (.int a2)]) (st' := [.int a1, .ref 247]) (pc' := 9) hk (.iload_n 1) 1 rfl rfl rfl rfl ?_
    refine ev_ls (L' := [some (.ref 247), some (.int a1), some (.int a2)]) (st' := [.int a2, .int a1, .ref 247]) (pc' := 10) hk (.iload_n 2) 1 rfl rfl rfl rfl ?_
    obtain ⟨v2, M1, hc3, hx⟩ := bnd2_some hx
    refine ev_cv 128 2 [.int v2] 13 hk rfl rfl rfl rfl lk_model rfl rfl rfl (rM_looks hc3) rfl rfl rfl rfl ?_
    refine ev_jp (pc' := 17) (st' := [.int v2]) hk (.goto 4) 3 rfl rfl rfl rfl rfl ?_
    cases hx
    obtain rfl := hM
    exact ev_retI hk rfl rfl
set_option maxRecDepth 2000 in
theorem rM_addsGore {S : Nat} {xs : Nat → Int32} {I : zI} {C : zC} {Y : Nat → Int32} {Γ : Nat → zG} {D : zD} {O : Nat → Int32} {M : zM} {ou : Nat → Int64} {od : Nat → UInt64} {j : Nat} {a1 : Int32} {X : zM}   (hx : fM_addsGore M a1 = some X) : Ev S xs 20 0 [some (.ref 247), some (.int a1)] [] (zH I C Y Γ D O M ou od j) (((.inl none), (zH I C Y Γ D O X ou od j)) : (Option Value ⊕ String) × px_H) := by
  generalize hM : (((.inl none), (zH I C Y Γ D O X ou od j)) : (Option Value ⊕ String) × px_H) = y
  replace hM := hM.symm
  have hk : pt_mt[20]? = some pt_r20 := rfl
  unfold fM_addsGore at hx
  refine ev_ls (L' := [some (.ref 247), some (.int a1)]) (st' := [.ref 247]) (pc' := 1) hk (.aload_n 0) 1 rfl rfl rfl rfl ?_
  refine ev_gf (.ref 249) 4 hk rfl rfl lk_model rfl rfl ?_
  refine ev_op (st' := [.int 14, .ref 249]) (pc' := 6) hk (.bipush 14) 2 rfl rfl rfl ?_
  refine ev_ls (L' := [some (.ref 247), some (.int a1)]) (st' := [.ref 247, .int 14, .ref 249]) (pc' := 7) hk (.aload_n 0) 1 rfl rfl rfl rfl ?_
  refine ev_gf (.ref 249) 10 hk rfl rfl lk_model rfl rfl ?_
  refine ev_op (st' := [.int 0, .ref 249, .int 14, .ref 249]) (pc' := 11) hk (.iconst 0) 1 rfl rfl rfl ?_
  refine ev_ial (v := ((mA M 249) 0)) rfl 12 hk rfl lk_m249 rfl ?_
  refine ev_op (st' := [.int (14 + ((mA M 249) 0)), .ref 249]) (pc' := 13) hk (.iadd) 1 rfl rfl rfl ?_
  refine ev_ls (L' := [some (.ref 247), some (.int a1)]) (st' := [.int a1, .int (14 + ((mA M 249) 0)), .ref 249]) (pc' := 14) hk (.iload_n 1) 1 rfl rfl rfl rfl ?_
  obtain ⟨A6, hA6, hx⟩ := bnd_some hx
  obtain ⟨M7, hM7, hx⟩ := bnd_some hx
  have hM7 := Option.some.inj hM7
  refine ev_ias hA6 15 hk rfl lk_m249 (sa_m249 hM7) rfl ?_
  refine ev_ls (L' := [some (.ref 247), some (.int a1)]) (st' := [.ref 247]) (pc' := 16) hk (.aload_n 0) 1 rfl rfl rfl rfl ?_
  refine ev_gf (.ref 249) 19 hk rfl rfl lk_model rfl rfl ?_
  refine ev_op (st' := [.int 26, .ref 249]) (pc' := 21) hk (.bipush 26) 2 rfl rfl rfl ?_
  refine ev_ls (L' := [some (.ref 247), some (.int a1)]) (st' := [.ref 247, .int 26, .ref 249]) (pc' := 22) hk (.aload_n 0) 1 rfl rfl rfl rfl ?_
  refine ev_gf (.ref 249) 25 hk rfl rfl lk_model rfl rfl ?_
  refine ev_op (st' := [.int 0, .ref 249, .int 26, .ref 249]) (pc' := 26) hk (.iconst 0) 1 rfl rfl rfl ?_
  refine ev_ial (v := ((mA M7 249) 0)) rfl 27 hk rfl lk_m249 rfl ?_
  refine ev_op (st' := [.int (26 + ((mA M7 249) 0)), .ref 249]) (pc' := 28) hk (.iadd) 1 rfl rfl rfl ?_
  refine ev_op (st' := [.int 20, .int (26 + ((mA M7 249) 0)), .ref 249]) (pc' := 30) hk (.bipush 20) 2 rfl rfl rfl ?_
  obtain ⟨A8, hA8, hx⟩ := bnd_some hx
  obtain ⟨M9, hM9, hx⟩ := bnd_some hx
  have hM9 := Option.some.inj hM9
  refine ev_ias hA8 31 hk rfl lk_m249 (sa_m249 hM9) rfl ?_
  refine ev_ls (L' := [some (.ref 247), some (.int a1)]) (st' := [.ref 247]) (pc' := 32) hk (.aload_n 0) 1 rfl rfl rfl rfl ?_
  refine ev_gf (.ref 249) 35 hk rfl rfl lk_model rfl rfl ?_
  refine ev_op (st' := [.int 0, .ref 249]) (pc' := 36) hk (.iconst 0) 1 rfl rfl rfl ?_
  refine ev_op (st' := [.int 0, .ref 249, .int 0, .ref 249]) (pc' := 37) hk (.dup2) 1 rfl rfl rfl ?_
  refine ev_ial (v := ((mA M9 249) 0)) rfl 38 hk rfl lk_m249 rfl ?_
  refine ev_op (st' := [.int 1, .int ((mA M9 249) 0), .int 0, .ref 249]) (pc' := 39) hk (.iconst 1) 1 rfl rfl rfl ?_
  refine ev_op (st' := [.int (((mA M9 249) 0) + 1), .int 0, .ref 249]) (pc' := 40) hk (.iadd) 1 rfl rfl rfl ?_
  obtain ⟨M10, hM10, hx⟩ := bnd_some hx
  have hM10 := Option.some.inj hM10
  refine ev_ias (A := (upd (mA M9 249) 0 (((mA M9 249) 0) + 1))) rfl 41 hk rfl lk_m249 (sa_m249 hM10) rfl ?_
  cases hx
  obtain rfl := hM
  exact ev_retv hk rfl rfl
set_option maxRecDepth 4000 in
theorem rM_widthHere_j54 {S : Nat} {xs : Nat → Int32} {I : zI} {C : zC} {Y : Nat → Int32} {Γ : Nat → zG} {D : zD} {O : Nat → Int32} {M : zM} {ou : Nat → Int64} {od : Nat → UInt64} {j : Nat} {a3 : Int32} {y : (Option Value ⊕ String) × px_H} {x : zM}  (hx : fM_widthHere_j54 M a3 = some x) (hM : (fun X : zM => y = (((.inl none), (zH I C Y Γ D O X ou od j)) : (Option Value ⊕ String) × px_H)) x) (u1 : Option Value) (hu1 : px_cz u1 = true) (u2 : Option Value) (hu2 : px_cz u2 = true) : Ev S xs 198 54 [some (.ref 247), u1, u2, some (.int a3)] [] (zH I C Y Γ D O M ou od j) y := by
  have hk : pt_mt[198]? = some pt_r198 := rfl
  unfold fM_widthHere_j54 at hx
  refine ev_ls (L' := [some (.ref 247), u1, u2, some (.int a3)]) (st' := [.ref 247]) (pc' := 55) hk (.aload_n 0) 1 rfl rfl rfl rfl ?_
  refine ev_cv 84 0 [.int (b2i (fM_isGood M))] 58 hk rfl rfl rfl rfl lk_model rfl rfl rfl (rM_isGood rfl) rfl rfl rfl rfl ?_
  refine ev_d1 62 61 hk rfl rfl rfl rfl (px_bne hx (fun hc hx => ?_) (fun hc hx => ?_))
  · refine ev_ls (L' := [some (.ref 247), u1, u2, some (.int a3)]) (st' := [.ref 247]) (pc' := 63) hk (.aload_n 0) 1 rfl rfl rfl rfl ?_
    refine ev_ls (L' := [some (.ref 247), u1, u2, some (.int a3)]) (st' := [.int a3, .ref 247]) (pc' := 64) hk (.iload_n 3) 1 rfl rfl rfl rfl ?_
    obtain ⟨M6, hc7, hx⟩ := bnd_some hx
    refine ev_cv 20 1 [] 67 hk rfl rfl rfl rfl lk_model rfl rfl rfl (rM_addsGore hc7) rfl rfl rfl rfl ?_
    refine ev_ls (L' := [some (.ref 247), u1, u2, some (.int a3)]) (st' := [.ref 247]) (pc' := 68) hk (.aload_n 0) 1 rfl rfl rfl rfl ?_
    obtain ⟨M8, hc9, hx⟩ := bnd_some hx
    refine ev_cv 58 0 [] 71 hk rfl rfl rfl rfl lk_model rfl rfl rfl (rM_goOnRead hc9) rfl rfl rfl rfl ?_
    cases hx
    obtain rfl := hM
    exact ev_retv hk rfl rfl
  · cases hx
    obtain rfl := hM
    exact ev_retv hk rfl rfl
set_option maxRecDepth 4000 in
theorem rM_widthHere_j22 {S : Nat} {xs : Nat → Int32} {I : zI} {C : zC} {Y : Nat → Int32} {Γ : Nat → zG} {D : zD} {O : Nat → Int32} {M : zM} {ou : Nat → Int64} {od : Nat → UInt64} {j : Nat} {a0t : Int32} {y : (Option Value ⊕ String) × px_H} {x : zM}  (hx : fM_widthHere_j22 M a0t = some x) (hM : (fun X : zM => y = (((.inl none), (zH I C Y Γ D O X ou od j)) : (Option Value ⊕ String) × px_H)) x) (u1 : Option Value) (hu1 : px_cz u1 = true) : Ev S xs 198 22 [some (.ref 247), u1, none, none] [.int a0t] (zH I C Y Γ D O M ou od j) y := by
  have hk : pt_mt[198]? = some pt_r198 := rfl
  unfold fM_widthHere_j22 at hx
  refine ev_ls (L' := [some (.ref 247), u1, some (.int a0t), none]) (st' := []) (pc' := 23) hk (.istore_n 2) 1 rfl rfl (congrArg (Option.map (fun L => (L, []))) (px_st1_v (i := 1) (L := [some (.ref 247), u1, none, none]) hu1 rfl rfl rfl)) rfl ?_
  refine ev_ls (L' := [some (.ref 247), u1, some (.int a0t), none]) (st' := [.ref 247]) (pc' := 24) hk (.aload_n 0) 1 rfl rfl rfl rfl ?_
  refine ev_op (st' := [.int 10, .ref 247]) (pc' := 26) hk (.bipush 10) 2 rfl rfl rfl ?_
  refine ev_ls (L' := [some (.ref 247), u1, some (.int a0t), none]) (st' := [.int a0t, .int 10, .ref 247]) (pc' := 27) hk (.iload_n 2) 1 rfl rfl rfl rfl ?_
  obtain ⟨v2, M1, hc3, hx⟩ := bnd2_some hx
  refine ev_cv 170 2 [.int v2] 30 hk rfl rfl rfl rfl lk_model rfl rfl rfl (rM_stays hc3) rfl rfl rfl rfl ?_
  refine ev_ls (L' := [some (.ref 247), u1, some (.int a0t), some (.int v2)]) (st' := []) (pc' := 31) hk (.istore_n 3) 1 rfl rfl rfl rfl ?_
  refine ev_ls (L' := [some (.ref 247), u1, some (.int a0t), some (.int v2)]) (st' := [.ref 247]) (pc' := 32) hk (.aload_n 0) 1 rfl rfl rfl rfl ?_
  refine ev_cv 84 0 [.int (b2i (fM_isGood M1))] 35 hk rfl rfl rfl rfl lk_model rfl rfl rfl (rM_isGood rfl) rfl rfl rfl rfl ?_
  refine ev_d1 54 38 hk rfl rfl rfl rfl (px_beq hx (fun hc hx => ?_) (fun hc hx => ?_))
  · exact rM_widthHere_j54 hx hM u1 hu1 (some (.int a0t)) rfl
  · refine ev_ls (L' := [some (.ref 247), u1, some (.int a0t), some (.int v2)]) (st' := [.ref 247]) (pc' := 39) hk (.aload_n 0) 1 rfl rfl rfl rfl ?_
    refine ev_gf (.ref 249) 42 hk rfl rfl lk_model rfl rfl ?_
    refine ev_op (st' := [.int 0, .ref 249]) (pc' := 43) hk (.iconst 0) 1 rfl rfl rfl ?_
    refine ev_ial (v := ((mA M1 249) 0)) rfl 44 hk rfl lk_m249 rfl ?_
    refine ev_op (st' := [.int 12, .int ((mA M1 249) 0)]) (pc' := 46) hk (.bipush 12) 2 rfl rfl rfl ?_
    refine ev_d2 54 49 hk rfl rfl rfl rfl (px_cne hx (fun hc hx => ?_) (fun hc hx => ?_))
    · exact rM_widthHere_j54 hx hM u1 hu1 (some (.int a0t)) rfl
    · refine ev_ls (L' := [some (.ref 247), u1, some (.int a0t), some (.int v2)]) (st' := [.ref 247]) (pc' := 50) hk (.aload_n 0) 1 rfl rfl rfl rfl ?_
      refine ev_op (st' := [.int 4, .ref 247]) (pc' := 51) hk (.iconst 4) 1 rfl rfl rfl ?_
      obtain ⟨M4, hc5, hx⟩ := bnd_some hx
      refine ev_cv 203 1 [] 54 hk rfl rfl rfl rfl lk_model rfl rfl rfl (rM_wrong hc5) rfl rfl rfl rfl ?_
      exact rM_widthHere_j54 hx hM u1 hu1 (some (.int a0t)) rfl
set_option maxRecDepth 2000 in
theorem rM_widthHere {S : Nat} {xs : Nat → Int32} {I : zI} {C : zC} {Y : Nat → Int32} {Γ : Nat → zG} {D : zD} {O : Nat → Int32} {M : zM} {ou : Nat → Int64} {od : Nat → UInt64} {j : Nat} {a1 : Int32} {X : zM}   (hx : fM_widthHere M a1 = some X) : Ev S xs 198 0 [some (.ref 247), some (.int a1), none, none] [] (zH I C Y Γ D O M ou od j) (((.inl none), (zH I C Y Γ D O X ou od j)) : (Option Value ⊕ String) × px_H) := by
  generalize hM : (((.inl none), (zH I C Y Γ D O X ou od j)) : (Option Value ⊕ String) × px_H) = y
  replace hM := hM.symm
  have hk : pt_mt[198]? = some pt_r198 := rfl
  unfold fM_widthHere at hx
  refine ev_op (st' := [.int 360]) (pc' := 3) hk (.sipush 360) 3 rfl rfl rfl ?_
  refine ev_ls (L' := [some (.ref 247), some (.int a1), none, none]) (st' := [.int a1, .int 360]) (pc' := 4) hk (.iload_n 1) 1 rfl rfl rfl rfl ?_
  refine ev_op (st' := [.int (360 - a1)]) (pc' := 5) hk (.isub) 1 rfl rfl rfl ?_
  refine ev_op (st' := [.int 350, .int (360 - a1)]) (pc' := 8) hk (.sipush 350) 3 rfl rfl rfl ?_
  refine ev_d2 19 11 hk rfl rfl rfl rfl (px_cge hx (fun hc hx => ?_) (fun hc hx => ?_))
  · refine ev_op (st' := [.int 350]) (pc' := 22) hk (.sipush 350) 3 rfl rfl rfl ?_
    exact rM_widthHere_j22 hx hM (some (.int a1)) rfl
  · refine ev_op (st' := [.int 360]) (pc' := 14) hk (.sipush 360) 3 rfl rfl rfl ?_
    refine ev_ls (L' := [some (.ref 247), some (.int a1), none, none]) (st' := [.int a1, .int 360]) (pc' := 15) hk (.iload_n 1) 1 rfl rfl rfl rfl ?_
    refine ev_op (st' := [.int (360 - a1)]) (pc' := 16) hk (.isub) 1 rfl rfl rfl ?_
    refine ev_jp (pc' := 22) (st' := [.int (360 - a1)]) hk (.goto 6) 3 rfl rfl rfl rfl rfl ?_
    exact rM_widthHere_j22 hx hM (some (.int a1)) rfl
def qM_goresLine_5 (S : Nat) (xs : Nat → Int32) (I : zI) (C : zC) (Y : Nat → Int32) (Γ : Nat → zG) (D : zD) (O : Nat → Int32) (ou : Nat → Int64) (od : Nat → UInt64) (j : Nat) (y : (Option Value ⊕ String) × px_H) (s : zM) : Prop := Ev S xs 66 5 [some (.ref 247)] [] (zH I C Y Γ D O s ou od j) y
set_option maxRecDepth 4000 in
theorem rM_goresLine_j67 {S : Nat} {xs : Nat → Int32} {I : zI} {C : zC} {Y : Nat → Int32} {Γ : Nat → zG} {D : zD} {O : Nat → Int32} {M : zM} {ou : Nat → Int64} {od : Nat → UInt64} {j : Nat}  {y : (Option Value ⊕ String) × px_H} {x : zM}  (hx : fM_goresLine_j67 M = some x) (hM : (fun X : zM => y = (((.inl none), (zH I C Y Γ D O X ou od j)) : (Option Value ⊕ String) × px_H)) x)  : Ev S xs 66 67 [some (.ref 247)] [] (zH I C Y Γ D O M ou od j) y := by
  have hk : pt_mt[66]? = some pt_r66 := rfl
  unfold fM_goresLine_j67 at hx
  refine ev_ls (L' := [some (.ref 247)]) (st' := [.ref 247]) (pc' := 68) hk (.aload_n 0) 1 rfl rfl rfl rfl ?_
  refine ev_op (st' := [.int 59, .ref 247]) (pc' := 70) hk (.bipush 59) 2 rfl rfl rfl ?_
  obtain ⟨M5, hc6, hx⟩ := bnd_some hx
  refine ev_cv 139 1 [] 73 hk rfl rfl rfl rfl lk_model rfl rfl rfl (rM_mustSign hc6) rfl rfl rfl rfl ?_
  cases hx
  obtain rfl := hM
  exact ev_retv hk rfl rfl
set_option maxRecDepth 4000 in
theorem rM_goresLine_j37 {S : Nat} {xs : Nat → Int32} {I : zI} {C : zC} {Y : Nat → Int32} {Γ : Nat → zG} {D : zD} {O : Nat → Int32} {M : zM} {ou : Nat → Int64} {od : Nat → UInt64} {j : Nat}  {y : (Option Value ⊕ String) × px_H} {x : zM}  (hx : fM_goresLine_j37 M = some x) (hM : (fun X : zM => y = (((.inl none), (zH I C Y Γ D O X ou od j)) : (Option Value ⊕ String) × px_H)) x)  : Ev S xs 66 37 [some (.ref 247)] [] (zH I C Y Γ D O M ou od j) y := by
  have hk : pt_mt[66]? = some pt_r66 := rfl
  unfold fM_goresLine_j37 at hx
  refine ev_ls (L' := [some (.ref 247)]) (st' := [.ref 247]) (pc' := 38) hk (.aload_n 0) 1 rfl rfl rfl rfl ?_
  refine ev_op (st' := [.int 59, .ref 247]) (pc' := 40) hk (.bipush 59) 2 rfl rfl rfl ?_
  refine ev_cv 91 1 [.int (b2i (fM_isSign M 59))] 43 hk rfl rfl rfl rfl lk_model rfl rfl rfl (rM_isSign rfl) rfl rfl rfl rfl ?_
  refine ev_d1 67 46 hk rfl rfl rfl rfl (px_beq hx (fun hc hx => ?_) (fun hc hx => ?_))
  · exact rM_goresLine_j67 hx hM 
  · refine ev_ls (L' := [some (.ref 247)]) (st' := [.ref 247]) (pc' := 47) hk (.aload_n 0) 1 rfl rfl rfl rfl ?_
    refine ev_ls (L' := [some (.ref 247)]) (st' := [.ref 247, .ref 247]) (pc' := 48) hk (.aload_n 0) 1 rfl rfl rfl rfl ?_
    refine ev_gf (.ref 249) 51 hk rfl rfl lk_model rfl rfl ?_
    refine ev_op (st' := [.int 0, .ref 249, .ref 247]) (pc' := 52) hk (.iconst 0) 1 rfl rfl rfl ?_
    refine ev_ial (v := ((mA M 249) 0)) rfl 53 hk rfl lk_m249 rfl ?_
    obtain ⟨v1, hc2, hx⟩ := bnd_some hx
    refine ev_cv 27 1 [.int v1] 56 hk rfl rfl rfl rfl lk_model rfl rfl rfl (rM_beginning hc2) rfl rfl rfl rfl ?_
    refine ev_op (st' := [.int 360, .int v1]) (pc' := 59) hk (.sipush 360) 3 rfl rfl rfl ?_
    refine ev_d2 67 62 hk rfl rfl rfl rfl (px_ceq hx (fun hc hx => ?_) (fun hc hx => ?_))
    · exact rM_goresLine_j67 hx hM 
    · refine ev_ls (L' := [some (.ref 247)]) (st' := [.ref 247]) (pc' := 63) hk (.aload_n 0) 1 rfl rfl rfl rfl ?_
      refine ev_op (st' := [.int 3, .ref 247]) (pc' := 64) hk (.iconst 3) 1 rfl rfl rfl ?_
      obtain ⟨M3, hc4, hx⟩ := bnd_some hx
      refine ev_cv 203 1 [] 67 hk rfl rfl rfl rfl lk_model rfl rfl rfl (rM_wrong hc4) rfl rfl rfl rfl ?_
      exact rM_goresLine_j67 hx hM 
set_option maxRecDepth 4000 in
theorem rM_goresLine_b5 {S : Nat} {xs : Nat → Int32} {I : zI} {C : zC} {Y : Nat → Int32} {Γ : Nat → zG} {D : zD} {O : Nat → Int32} {ou : Nat → Int64} {od : Nat → UInt64} {j : Nat}  {y : (Option Value ⊕ String) × px_H} {s : zM} {x : (zM) ⊕ (zM)}  (hx : fM_goresLine_b5 s = some x) (hM : (Sum.elim (qM_goresLine_5 S xs I C Y Γ D O ou od j y) (fun X : zM => y = (((.inl none), (zH I C Y Γ D O X ou od j)) : (Option Value ⊕ String) × px_H))) x) : qM_goresLine_5 S xs I C Y Γ D O ou od j y s := by
  revert hx
  generalize s = M
  intro hx
  have hk : pt_mt[66]? = some pt_r66 := rfl
  unfold fM_goresLine_b5 at hx
  try dsimp only at hx
  refine ev_ls (L' := [some (.ref 247)]) (st' := [.ref 247]) (pc' := 6) hk (.aload_n 0) 1 rfl rfl rfl rfl ?_
  refine ev_cv 84 0 [.int (b2i (fM_isGood M))] 9 hk rfl rfl rfl rfl lk_model rfl rfl rfl (rM_isGood rfl) rfl rfl rfl rfl ?_
  refine ev_d1 37 12 hk rfl rfl rfl rfl (px_beq hx (fun hc hx => ?_) (fun hc hx => ?_))
  · obtain ⟨X, hx2, hX⟩ := Option.map_eq_some_iff.mp hx
    clear hx; subst hX; have hx := hx2; clear hx2
    exact rM_goresLine_j37 hx hM 
  · refine ev_ls (L' := [some (.ref 247)]) (st' := [.ref 247]) (pc' := 13) hk (.aload_n 0) 1 rfl rfl rfl rfl ?_
    refine ev_gf (.int (mF M 6)) 16 hk rfl rfl lk_model rfl rfl ?_
    refine ev_op (st' := [.int 2, .int (mF M 6)]) (pc' := 17) hk (.iconst 2) 1 rfl rfl rfl ?_
    refine ev_d2 37 20 hk rfl rfl rfl rfl (px_cne hx (fun hc hx => ?_) (fun hc hx => ?_))
    · obtain ⟨X, hx2, hX⟩ := Option.map_eq_some_iff.mp hx
      clear hx; subst hX; have hx := hx2; clear hx2
      exact rM_goresLine_j37 hx hM 
    · refine ev_ls (L' := [some (.ref 247)]) (st' := [.ref 247]) (pc' := 21) hk (.aload_n 0) 1 rfl rfl rfl rfl ?_
      refine ev_ls (L' := [some (.ref 247)]) (st' := [.ref 247, .ref 247]) (pc' := 22) hk (.aload_n 0) 1 rfl rfl rfl rfl ?_
      refine ev_ls (L' := [some (.ref 247)]) (st' := [.ref 247, .ref 247, .ref 247]) (pc' := 23) hk (.aload_n 0) 1 rfl rfl rfl rfl ?_
      refine ev_gf (.ref 249) 26 hk rfl rfl lk_model rfl rfl ?_
      refine ev_op (st' := [.int 0, .ref 249, .ref 247, .ref 247]) (pc' := 27) hk (.iconst 0) 1 rfl rfl rfl ?_
      refine ev_ial (v := ((mA M 249) 0)) rfl 28 hk rfl lk_m249 rfl ?_
      obtain ⟨v7, hc8, hx⟩ := bnd_some hx
      refine ev_cv 27 1 [.int v7, .ref 247] 31 hk rfl rfl rfl rfl lk_model rfl rfl rfl (rM_beginning hc8) rfl rfl rfl rfl ?_
      obtain ⟨M9, hc10, hx⟩ := bnd_some hx
      refine ev_cv 198 1 [] 34 hk rfl rfl rfl rfl lk_model rfl rfl rfl (rM_widthHere hc10) rfl rfl rfl rfl ?_
      refine ev_jp (pc' := 5) (st' := []) hk (.goto (-29)) 3 rfl rfl rfl rfl rfl ?_
      cases hx
      exact hM
set_option maxRecDepth 2000 in
theorem rM_goresLine {S : Nat} {xs : Nat → Int32} {I : zI} {C : zC} {Y : Nat → Int32} {Γ : Nat → zG} {D : zD} {O : Nat → Int32} {M : zM} {ou : Nat → Int64} {od : Nat → UInt64} {j : Nat}  {X : zM}   (hx : fM_goresLine M = some X) : Ev S xs 66 0 [some (.ref 247)] [] (zH I C Y Γ D O M ou od j) (((.inl none), (zH I C Y Γ D O X ou od j)) : (Option Value ⊕ String) × px_H) := by
  generalize hM : (((.inl none), (zH I C Y Γ D O X ou od j)) : (Option Value ⊕ String) × px_H) = y
  replace hM := hM.symm
  have hk : pt_mt[66]? = some pt_r66 := rfl
  unfold fM_goresLine at hx
  refine ev_ls (L' := [some (.ref 247)]) (st' := [.ref 247]) (pc' := 1) hk (.aload_n 0) 1 rfl rfl rfl rfl ?_
  refine ev_op (st' := [.int 0, .ref 247]) (pc' := 2) hk (.iconst 0) 1 rfl rfl rfl ?_
  obtain ⟨M11, hc12, hx⟩ := bnd_some hx
  refine ev_cv 198 1 [] 5 hk rfl rfl rfl rfl lk_model rfl rfl rfl (rM_widthHere hc12) rfl rfl rfl rfl ?_
  exact ev_iter (qM_goresLine_5 S xs I C Y Γ D O ou od j _) (fun X : zM => y = (((.inl none), (zH I C Y Γ D O X ou od j)) : (Option Value ⊕ String) × px_H)) (fun s x hb hM => rM_goresLine_b5 hb hM) fu _ _ hx hM 
set_option maxRecDepth 4000 in
theorem rM_beginsLine_j10 {S : Nat} {xs : Nat → Int32} {I : zI} {C : zC} {Y : Nat → Int32} {Γ : Nat → zG} {D : zD} {O : Nat → Int32} {M : zM} {ou : Nat → Int64} {od : Nat → UInt64} {j : Nat}  {y : (Option Value ⊕ String) × px_H} {x : zM}  (hx : fM_beginsLine_j10 M = some x) (hM : (fun X : zM => y = (((.inl none), (zH I C Y Γ D O X ou od j)) : (Option Value ⊕ String) × px_H)) x) (u1 : Option Value) (hu1 : px_cz u1 = true) (u2 : Option Value) (hu2 : px_cz u2 = true) : Ev S xs 29 10 [some (.ref 247), u1, u2] [] (zH I C Y Γ D O M ou od j) y := by
  have hk : pt_mt[29]? = some pt_r29 := rfl
  unfold fM_beginsLine_j10 at hx
  refine ev_ls (L' := [some (.ref 247), u1, u2]) (st' := [.ref 247]) (pc' := 11) hk (.aload_n 0) 1 rfl rfl rfl rfl ?_
  refine ev_cv 84 0 [.int (b2i (fM_isGood M))] 14 hk rfl rfl rfl rfl lk_model rfl rfl rfl (rM_isGood rfl) rfl rfl rfl rfl ?_
  refine ev_d1 21 17 hk rfl rfl rfl rfl (px_beq hx (fun hc hx => ?_) (fun hc hx => ?_))
  · cases hx
    obtain rfl := hM
    exact ev_retv hk rfl rfl
  · refine ev_ls (L' := [some (.ref 247), u1, u2]) (st' := [.ref 247]) (pc' := 18) hk (.aload_n 0) 1 rfl rfl rfl rfl ?_
    obtain ⟨M1, hc2, hx⟩ := bnd_some hx
    refine ev_cv 58 0 [] 21 hk rfl rfl rfl rfl lk_model rfl rfl rfl (rM_goOnRead hc2) rfl rfl rfl rfl ?_
    cases hx
    obtain rfl := hM
    exact ev_retv hk rfl rfl
set_option maxRecDepth 2000 in
theorem rM_beginsLine {S : Nat} {xs : Nat → Int32} {I : zI} {C : zC} {Y : Nat → Int32} {Γ : Nat → zG} {D : zD} {O : Nat → Int32} {M : zM} {ou : Nat → Int64} {od : Nat → UInt64} {j : Nat} {a1 : Int32} {a2 : Int32} {X : zM}   (hx : fM_beginsLine M a1 a2 = some X) : Ev S xs 29 0 [some (.ref 247), some (.int a1), some (.int a2)] [] (zH I C Y Γ D O M ou od j) (((.inl none), (zH I C Y Γ D O X ou od j)) : (Option Value ⊕ String) × px_H) := by
  generalize hM : (((.inl none), (zH I C Y Γ D O X ou od j)) : (Option Value ⊕ String) × px_H) = y
  replace hM := hM.symm
  have hk : pt_mt[29]? = some pt_r29 := rfl
  unfold fM_beginsLine at hx
  refine ev_ls (L' := [some (.ref 247), some (.int a1), some (.int a2)]) (st' := [.int a1]) (pc' := 1) hk (.iload_n 1) 1 rfl rfl rfl rfl ?_
  refine ev_ls (L' := [some (.ref 247), some (.int a1), some (.int a2)]) (st' := [.int a2, .int a1]) (pc' := 2) hk (.iload_n 2) 1 rfl rfl rfl rfl ?_
  refine ev_d2 10 5 hk rfl rfl rfl rfl (px_cne hx (fun hc hx => ?_) (fun hc hx => ?_))
  · exact rM_beginsLine_j10 hx hM (some (.int a1)) rfl (some (.int a2)) rfl
  · refine ev_ls (L' := [some (.ref 247), some (.int a1), some (.int a2)]) (st' := [.ref 247]) (pc' := 6) hk (.aload_n 0) 1 rfl rfl rfl rfl ?_
    refine ev_op (st' := [.int 4, .ref 247]) (pc' := 7) hk (.iconst 4) 1 rfl rfl rfl ?_
    obtain ⟨M3, hc4, hx⟩ := bnd_some hx
    refine ev_cv 203 1 [] 10 hk rfl rfl rfl rfl lk_model rfl rfl rfl (rM_wrong hc4) rfl rfl rfl rfl ?_
    exact rM_beginsLine_j10 hx hM (some (.int a1)) rfl (some (.int a2)) rfl
set_option maxRecDepth 4000 in
theorem rM_wordHere_j20 {S : Nat} {xs : Nat → Int32} {I : zI} {C : zC} {Y : Nat → Int32} {Γ : Nat → zG} {D : zD} {O : Nat → Int32} {M : zM} {ou : Nat → Int64} {od : Nat → UInt64} {j : Nat}  {y : (Option Value ⊕ String) × px_H} {x : Int64 × zM}  (hx : fM_wordHere_j20 M = some x) (hM : (fun X : Int64 × zM => y = (((.inl (some (.long X.1))), (zH I C Y Γ D O X.2 ou od j)) : (Option Value ⊕ String) × px_H)) x)  : Ev S xs 200 20 [some (.ref 247)] [] (zH I C Y Γ D O M ou od j) y := by
  have hk : pt_mt[200]? = some pt_r200 := rfl
  unfold fM_wordHere_j20 at hx
  refine ev_ls (L' := [some (.ref 247)]) (st' := [.ref 247]) (pc' := 21) hk (.aload_n 0) 1 rfl rfl rfl rfl ?_
  refine ev_gf (.long (mN M)) 24 hk rfl rfl lk_model rfl rfl ?_
  cases hx
  obtain rfl := hM
  exact ev_retL hk rfl rfl
set_option maxRecDepth 2000 in
theorem rM_wordHere {S : Nat} {xs : Nat → Int32} {I : zI} {C : zC} {Y : Nat → Int32} {Γ : Nat → zG} {D : zD} {O : Nat → Int32} {M : zM} {ou : Nat → Int64} {od : Nat → UInt64} {j : Nat}  {X : Int64 × zM}   (hx : fM_wordHere M = some X) : Ev S xs 200 0 [some (.ref 247)] [] (zH I C Y Γ D O M ou od j) (((.inl (some (.long X.1))), (zH I C Y Γ D O X.2 ou od j)) : (Option Value ⊕ String) × px_H) := by
  generalize hM : (((.inl (some (.long X.1))), (zH I C Y Γ D O X.2 ou od j)) : (Option Value ⊕ String) × px_H) = y
  replace hM := hM.symm
  have hk : pt_mt[200]? = some pt_r200 := rfl
  unfold fM_wordHere at hx
  refine ev_ls (L' := [some (.ref 247)]) (st' := [.ref 247]) (pc' := 1) hk (.aload_n 0) 1 rfl rfl rfl rfl ?_
  refine ev_cv 84 0 [.int (b2i (fM_isGood M))] 4 hk rfl rfl rfl rfl lk_model rfl rfl rfl (rM_isGood rfl) rfl rfl rfl rfl ?_
  refine ev_d1 20 7 hk rfl rfl rfl rfl (px_beq hx (fun hc hx => ?_) (fun hc hx => ?_))
  · exact rM_wordHere_j20 hx hM 
  · refine ev_ls (L' := [some (.ref 247)]) (st' := [.ref 247]) (pc' := 8) hk (.aload_n 0) 1 rfl rfl rfl rfl ?_
    refine ev_gf (.int (mF M 6)) 11 hk rfl rfl lk_model rfl rfl ?_
    refine ev_op (st' := [.int 1, .int (mF M 6)]) (pc' := 12) hk (.iconst 1) 1 rfl rfl rfl ?_
    refine ev_d2 20 15 hk rfl rfl rfl rfl (px_ceq hx (fun hc hx => ?_) (fun hc hx => ?_))
    · exact rM_wordHere_j20 hx hM 
    · refine ev_ls (L' := [some (.ref 247)]) (st' := [.ref 247]) (pc' := 16) hk (.aload_n 0) 1 rfl rfl rfl rfl ?_
      refine ev_op (st' := [.int 1, .ref 247]) (pc' := 17) hk (.iconst 1) 1 rfl rfl rfl ?_
      obtain ⟨M1, hc2, hx⟩ := bnd_some hx
      refine ev_cv 203 1 [] 20 hk rfl rfl rfl rfl lk_model rfl rfl rfl (rM_wrong hc2) rfl rfl rfl rfl ?_
      exact rM_wordHere_j20 hx hM 
set_option maxRecDepth 4000 in
theorem rM_spotLine_j49 {S : Nat} {xs : Nat → Int32} {I : zI} {C : zC} {Y : Nat → Int32} {Γ : Nat → zG} {D : zD} {O : Nat → Int32} {M : zM} {ou : Nat → Int64} {od : Nat → UInt64} {j : Nat} {a1 : Int32} {a2 : Int64} {y : (Option Value ⊕ String) × px_H} {x : zM}  (hx : fM_spotLine_j49 M a1 a2 = some x) (hM : (fun X : zM => y = (((.inl none), (zH I C Y Γ D O X ou od j)) : (Option Value ⊕ String) × px_H)) x)  : Ev S xs 166 49 [some (.ref 247), some (.int a1), some (.long a2), none, none, none] [] (zH I C Y Γ D O M ou od j) y := by
  have hk : pt_mt[166]? = some pt_r166 := rfl
  unfold fM_spotLine_j49 at hx
  refine ev_ls (L' := [some (.ref 247), some (.int a1), some (.long a2), none, none, none]) (st' := [.ref 247]) (pc' := 50) hk (.aload_n 0) 1 rfl rfl rfl rfl ?_
  refine ev_op (st' := [.int 0, .ref 247]) (pc' := 51) hk (.iconst 0) 1 rfl rfl rfl ?_
  refine ev_op (st' := [.int 8, .int 0, .ref 247]) (pc' := 53) hk (.bipush 8) 2 rfl rfl rfl ?_
  obtain ⟨v5, M4, hc6, hx⟩ := bnd2_some hx
  refine ev_cv 136 2 [.int v5] 56 hk rfl rfl rfl rfl lk_model rfl rfl rfl (rM_more hc6) rfl rfl rfl rfl ?_
  refine ev_ls (L' := [some (.ref 247), some (.int a1), some (.long a2), none, some (.int v5), none]) (st' := []) (pc' := 58) hk (.istore 4) 2 rfl rfl rfl rfl ?_
  refine ev_ls (L' := [some (.ref 247), some (.int a1), some (.long a2), none, some (.int v5), none]) (st' := [.ref 247]) (pc' := 59) hk (.aload_n 0) 1 rfl rfl rfl rfl ?_
  refine ev_op (st' := [.int 0, .ref 247]) (pc' := 60) hk (.iconst 0) 1 rfl rfl rfl ?_
  refine ev_op (st' := [.int 359, .int 0, .ref 247]) (pc' := 63) hk (.sipush 359) 3 rfl rfl rfl ?_
  obtain ⟨v8, M7, hc9, hx⟩ := bnd2_some hx
  refine ev_cv 136 2 [.int v8] 66 hk rfl rfl rfl rfl lk_model rfl rfl rfl (rM_more hc9) rfl rfl rfl rfl ?_
  refine ev_ls (L' := [some (.ref 247), some (.int a1), some (.long a2), none, some (.int v5), some (.int v8)]) (st' := []) (pc' := 68) hk (.istore 5) 2 rfl rfl rfl rfl ?_
  refine ev_ls (L' := [some (.ref 247), some (.int a1), some (.long a2), none, some (.int v5), some (.int v8)]) (st' := [.ref 247]) (pc' := 69) hk (.aload_n 0) 1 rfl rfl rfl rfl ?_
  refine ev_cv 84 0 [.int (b2i (fM_isGood M7))] 72 hk rfl rfl rfl rfl lk_model rfl rfl rfl (rM_isGood rfl) rfl rfl rfl rfl ?_
  refine ev_d1 89 75 hk rfl rfl rfl rfl (px_beq hx (fun hc hx => ?_) (fun hc hx => ?_))
  · cases hx
    obtain rfl := hM
    exact ev_retv hk rfl rfl
  · refine ev_ls (L' := [some (.ref 247), some (.int a1), some (.long a2), none, some (.int v5), some (.int v8)]) (st' := [.ref 247]) (pc' := 76) hk (.aload_n 0) 1 rfl rfl rfl rfl ?_
    refine ev_ls (L' := [some (.ref 247), some (.int a1), some (.long a2), none, some (.int v5), some (.int v8)]) (st' := [.ref 247, .ref 247]) (pc' := 77) hk (.aload_n 0) 1 rfl rfl rfl rfl ?_
    refine ev_ls (L' := [some (.ref 247), some (.int a1), some (.long a2), none, some (.int v5), some (.int v8)]) (st' := [.long a2, .ref 247, .ref 247]) (pc' := 78) hk (.lload_n 2) 1 rfl rfl rfl rfl ?_
    refine ev_ls (L' := [some (.ref 247), some (.int a1), some (.long a2), none, some (.int v5), some (.int v8)]) (st' := [.int a1, .long a2, .ref 247, .ref 247]) (pc' := 79) hk (.iload_n 1) 1 rfl rfl rfl rfl ?_
    refine ev_ls (L' := [some (.ref 247), some (.int a1), some (.long a2), none, some (.int v5), some (.int v8)]) (st' := [.int v5, .int a1, .long a2, .ref 247, .ref 247]) (pc' := 81) hk (.iload 4) 2 rfl rfl rfl rfl ?_
    refine ev_ls (L' := [some (.ref 247), some (.int a1), some (.long a2), none, some (.int v5), some (.int v8)]) (st' := [.int v8, .int v5, .int a1, .long a2, .ref 247, .ref 247]) (pc' := 83) hk (.iload 5) 2 rfl rfl rfl rfl ?_
    obtain ⟨v11, M10, hc12, hx⟩ := bnd2_some hx
    refine ev_cv 22 4 [.int v11, .ref 247] 86 hk rfl rfl rfl rfl lk_model rfl rfl rfl (rM_addsSpot hc12) rfl rfl rfl rfl ?_
    obtain ⟨M13, hM13, hx⟩ := bnd_some hx
    have hM13 := Option.some.inj hM13
    refine ev_pf 89 hk rfl rfl lk_model rfl rfl rfl (sf_8_29 hM13) rfl ?_
    cases hx
    obtain rfl := hM
    exact ev_retv hk rfl rfl
set_option maxRecDepth 4000 in
theorem rM_spotLine_j38 {S : Nat} {xs : Nat → Int32} {I : zI} {C : zC} {Y : Nat → Int32} {Γ : Nat → zG} {D : zD} {O : Nat → Int32} {M : zM} {ou : Nat → Int64} {od : Nat → UInt64} {j : Nat} {a1 : Int32} {a2 : Int64} {y : (Option Value ⊕ String) × px_H} {x : zM}  (hx : fM_spotLine_j38 M a1 a2 = some x) (hM : (fun X : zM => y = (((.inl none), (zH I C Y Γ D O X ou od j)) : (Option Value ⊕ String) × px_H)) x)  : Ev S xs 166 38 [some (.ref 247), some (.int a1), some (.long a2), none, none, none] [] (zH I C Y Γ D O M ou od j) y := by
  have hk : pt_mt[166]? = some pt_r166 := rfl
  unfold fM_spotLine_j38 at hx
  refine ev_ls (L' := [some (.ref 247), some (.int a1), some (.long a2), none, none, none]) (st' := [.ref 247]) (pc' := 39) hk (.aload_n 0) 1 rfl rfl rfl rfl ?_
  refine ev_cv 84 0 [.int (b2i (fM_isGood M))] 42 hk rfl rfl rfl rfl lk_model rfl rfl rfl (rM_isGood rfl) rfl rfl rfl rfl ?_
  refine ev_d1 49 45 hk rfl rfl rfl rfl (px_beq hx (fun hc hx => ?_) (fun hc hx => ?_))
  · exact rM_spotLine_j49 hx hM 
  · refine ev_ls (L' := [some (.ref 247), some (.int a1), some (.long a2), none, none, none]) (st' := [.ref 247]) (pc' := 46) hk (.aload_n 0) 1 rfl rfl rfl rfl ?_
    obtain ⟨M2, hc3, hx⟩ := bnd_some hx
    refine ev_cv 58 0 [] 49 hk rfl rfl rfl rfl lk_model rfl rfl rfl (rM_goOnRead hc3) rfl rfl rfl rfl ?_
    exact rM_spotLine_j49 hx hM 
set_option maxRecDepth 2000 in
theorem rM_spotLine {S : Nat} {xs : Nat → Int32} {I : zI} {C : zC} {Y : Nat → Int32} {Γ : Nat → zG} {D : zD} {O : Nat → Int32} {M : zM} {ou : Nat → Int64} {od : Nat → UInt64} {j : Nat} {a1 : Int32} {X : zM}   (hx : fM_spotLine M a1 = some X) : Ev S xs 166 0 [some (.ref 247), some (.int a1), none, none, none, none] [] (zH I C Y Γ D O M ou od j) (((.inl none), (zH I C Y Γ D O X ou od j)) : (Option Value ⊕ String) × px_H) := by
  generalize hM : (((.inl none), (zH I C Y Γ D O X ou od j)) : (Option Value ⊕ String) × px_H) = y
  replace hM := hM.symm
  have hk : pt_mt[166]? = some pt_r166 := rfl
  unfold fM_spotLine at hx
  refine ev_ls (L' := [some (.ref 247), some (.int a1), none, none, none, none]) (st' := [.ref 247]) (pc' := 1) hk (.aload_n 0) 1 rfl rfl rfl rfl ?_
  refine ev_ls (L' := [some (.ref 247), some (.int a1), none, none, none, none]) (st' := [.ref 247, .ref 247]) (pc' := 2) hk (.aload_n 0) 1 rfl rfl rfl rfl ?_
  refine ev_gf (.ref 249) 5 hk rfl rfl lk_model rfl rfl ?_
  refine ev_op (st' := [.int 1, .ref 249, .ref 247]) (pc' := 6) hk (.iconst 1) 1 rfl rfl rfl ?_
  refine ev_ial (v := ((mA M 249) 1)) rfl 7 hk rfl lk_m249 rfl ?_
  refine ev_op (st' := [.int 10, .int ((mA M 249) 1), .ref 247]) (pc' := 9) hk (.bipush 10) 2 rfl rfl rfl ?_
  obtain ⟨M14, hc15, hx⟩ := bnd_some hx
  refine ev_cv 29 2 [] 12 hk rfl rfl rfl rfl lk_model rfl rfl rfl (rM_beginsLine hc15) rfl rfl rfl rfl ?_
  refine ev_ls (L' := [some (.ref 247), some (.int a1), none, none, none, none]) (st' := [.ref 247]) (pc' := 13) hk (.aload_n 0) 1 rfl rfl rfl rfl ?_
  obtain ⟨v17, M16, hc18, hx⟩ := bnd2_some hx
  refine ev_cv 200 0 [.long v17] 16 hk rfl rfl rfl rfl lk_model rfl rfl rfl (rM_wordHere hc18) rfl rfl rfl rfl ?_
  refine ev_ls (L' := [some (.ref 247), some (.int a1), some (.long v17), none, none, none]) (st' := []) (pc' := 17) hk (.lstore_n 2) 1 rfl rfl rfl rfl ?_
  refine ev_ls (L' := [some (.ref 247), some (.int a1), some (.long v17), none, none, none]) (st' := [.ref 247]) (pc' := 18) hk (.aload_n 0) 1 rfl rfl rfl rfl ?_
  refine ev_cv 84 0 [.int (b2i (fM_isGood M16))] 21 hk rfl rfl rfl rfl lk_model rfl rfl rfl (rM_isGood rfl) rfl rfl rfl rfl ?_
  refine ev_d1 38 24 hk rfl rfl rfl rfl (px_beq hx (fun hc hx => ?_) (fun hc hx => ?_))
  · exact rM_spotLine_j38 hx hM 
  · refine ev_ls (L' := [some (.ref 247), some (.int a1), some (.long v17), none, none, none]) (st' := [.ref 247]) (pc' := 25) hk (.aload_n 0) 1 rfl rfl rfl rfl ?_
    refine ev_ls (L' := [some (.ref 247), some (.int a1), some (.long v17), none, none, none]) (st' := [.long v17, .ref 247]) (pc' := 26) hk (.lload_n 2) 1 rfl rfl rfl rfl ?_
    obtain ⟨v19, hc20, hx⟩ := bnd_some hx
    refine ev_cv 167 1 [.int v19] 29 hk rfl rfl rfl rfl lk_model rfl rfl rfl (rM_spotNamed hc20) rfl rfl rfl rfl ?_
    refine ev_op (st' := [.int (-1), .int v19]) (pc' := 30) hk (.iconst (-1)) 1 rfl rfl rfl ?_
    refine ev_d2 38 33 hk rfl rfl rfl rfl (px_ceq hx (fun hc hx => ?_) (fun hc hx => ?_))
    · exact rM_spotLine_j38 hx hM 
    · refine ev_ls (L' := [some (.ref 247), some (.int a1), some (.long v17), none, none, none]) (st' := [.ref 247]) (pc' := 34) hk (.aload_n 0) 1 rfl rfl rfl rfl ?_
      refine ev_op (st' := [.int 3, .ref 247]) (pc' := 35) hk (.iconst 3) 1 rfl rfl rfl ?_
      obtain ⟨M21, hc22, hx⟩ := bnd_some hx
      refine ev_cv 203 1 [] 38 hk rfl rfl rfl rfl lk_model rfl rfl rfl (rM_wrong hc22) rfl rfl rfl rfl ?_
      exact rM_spotLine_j38 hx hM 
set_option maxRecDepth 4000 in
theorem rM_labelLine_j69 {S : Nat} {xs : Nat → Int32} {I : zI} {C : zC} {Y : Nat → Int32} {Γ : Nat → zG} {D : zD} {O : Nat → Int32} {M : zM} {ou : Nat → Int64} {od : Nat → UInt64} {j : Nat} {a1 : Int64} {a3 : Int32} {a4 : Int32} {y : (Option Value ⊕ String) × px_H} {x : zM}  (hx : fM_labelLine_j69 M a1 a3 a4 = some x) (hM : (fun X : zM => y = (((.inl none), (zH I C Y Γ D O X ou od j)) : (Option Value ⊕ String) × px_H)) x)  : Ev S xs 111 69 [some (.ref 247), some (.long a1), none, some (.int a3), some (.int a4)] [] (zH I C Y Γ D O M ou od j) y := by
  have hk : pt_mt[111]? = some pt_r111 := rfl
  unfold fM_labelLine_j69 at hx
  refine ev_ls (L' := [some (.ref 247), some (.long a1), none, some (.int a3), some (.int a4)]) (st' := [.ref 247]) (pc' := 70) hk (.aload_n 0) 1 rfl rfl rfl rfl ?_
  refine ev_cv 84 0 [.int (b2i (fM_isGood M))] 73 hk rfl rfl rfl rfl lk_model rfl rfl rfl (rM_isGood rfl) rfl rfl rfl rfl ?_
  refine ev_d1 77 76 hk rfl rfl rfl rfl (px_bne hx (fun hc hx => ?_) (fun hc hx => ?_))
  · refine ev_ls (L' := [some (.ref 247), some (.long a1), none, some (.int a3), some (.int a4)]) (st' := [.ref 247]) (pc' := 78) hk (.aload_n 0) 1 rfl rfl rfl rfl ?_
    refine ev_ls (L' := [some (.ref 247), some (.long a1), none, some (.int a3), some (.int a4)]) (st' := [.ref 247, .ref 247]) (pc' := 79) hk (.aload_n 0) 1 rfl rfl rfl rfl ?_
    refine ev_ls (L' := [some (.ref 247), some (.long a1), none, some (.int a3), some (.int a4)]) (st' := [.long a1, .ref 247, .ref 247]) (pc' := 80) hk (.lload_n 1) 1 rfl rfl rfl rfl ?_
    refine ev_ls (L' := [some (.ref 247), some (.long a1), none, some (.int a3), some (.int a4)]) (st' := [.int a3, .long a1, .ref 247, .ref 247]) (pc' := 81) hk (.iload_n 3) 1 rfl rfl rfl rfl ?_
    refine ev_ls (L' := [some (.ref 247), some (.long a1), none, some (.int a3), some (.int a4)]) (st' := [.int a4, .int a3, .long a1, .ref 247, .ref 247]) (pc' := 83) hk (.iload 4) 2 rfl rfl rfl rfl ?_
    obtain ⟨v13, M12, hc14, hx⟩ := bnd2_some hx
    refine ev_cv 21 3 [.int v13, .ref 247] 86 hk rfl rfl rfl rfl lk_model rfl rfl rfl (rM_addsLabel hc14) rfl rfl rfl rfl ?_
    obtain ⟨M15, hM15, hx⟩ := bnd_some hx
    have hM15 := Option.some.inj hM15
    refine ev_pf 89 hk rfl rfl lk_model rfl rfl rfl (sf_8_29 hM15) rfl ?_
    refine ev_ls (L' := [some (.ref 247), some (.long a1), none, some (.int a3), some (.int a4)]) (st' := [.ref 247]) (pc' := 90) hk (.aload_n 0) 1 rfl rfl rfl rfl ?_
    obtain ⟨M16, hc17, hx⟩ := bnd_some hx
    refine ev_cv 58 0 [] 93 hk rfl rfl rfl rfl lk_model rfl rfl rfl (rM_goOnRead hc17) rfl rfl rfl rfl ?_
    cases hx
    obtain rfl := hM
    exact ev_retv hk rfl rfl
  · cases hx
    obtain rfl := hM
    exact ev_retv hk rfl rfl
set_option maxRecDepth 4000 in
theorem rM_labelLine_j28 {S : Nat} {xs : Nat → Int32} {I : zI} {C : zC} {Y : Nat → Int32} {Γ : Nat → zG} {D : zD} {O : Nat → Int32} {M : zM} {ou : Nat → Int64} {od : Nat → UInt64} {j : Nat} {a1 : Int64} {y : (Option Value ⊕ String) × px_H} {x : zM}  (hx : fM_labelLine_j28 M a1 = some x) (hM : (fun X : zM => y = (((.inl none), (zH I C Y Γ D O X ou od j)) : (Option Value ⊕ String) × px_H)) x)  : Ev S xs 111 28 [some (.ref 247), some (.long a1), none, none, none] [] (zH I C Y Γ D O M ou od j) y := by
  have hk : pt_mt[111]? = some pt_r111 := rfl
  unfold fM_labelLine_j28 at hx
  refine ev_ls (L' := [some (.ref 247), some (.long a1), none, none, none]) (st' := [.ref 247]) (pc' := 29) hk (.aload_n 0) 1 rfl rfl rfl rfl ?_
  refine ev_op (st' := [.int 0, .ref 247]) (pc' := 30) hk (.iconst 0) 1 rfl rfl rfl ?_
  refine ev_op (st' := [.int 8, .int 0, .ref 247]) (pc' := 32) hk (.bipush 8) 2 rfl rfl rfl ?_
  obtain ⟨v3, M2, hc4, hx⟩ := bnd2_some hx
  refine ev_cv 136 2 [.int v3] 35 hk rfl rfl rfl rfl lk_model rfl rfl rfl (rM_more hc4) rfl rfl rfl rfl ?_
  refine ev_ls (L' := [some (.ref 247), some (.long a1), none, some (.int v3), none]) (st' := []) (pc' := 36) hk (.istore_n 3) 1 rfl rfl rfl rfl ?_
  refine ev_ls (L' := [some (.ref 247), some (.long a1), none, some (.int v3), none]) (st' := [.ref 247]) (pc' := 37) hk (.aload_n 0) 1 rfl rfl rfl rfl ?_
  refine ev_op (st' := [.int 0, .ref 247]) (pc' := 38) hk (.iconst 0) 1 rfl rfl rfl ?_
  refine ev_op (st' := [.int 359, .int 0, .ref 247]) (pc' := 41) hk (.sipush 359) 3 rfl rfl rfl ?_
  obtain ⟨v6, M5, hc7, hx⟩ := bnd2_some hx
  refine ev_cv 170 2 [.int v6] 44 hk rfl rfl rfl rfl lk_model rfl rfl rfl (rM_stays hc7) rfl rfl rfl rfl ?_
  refine ev_ls (L' := [some (.ref 247), some (.long a1), none, some (.int v3), some (.int v6)]) (st' := []) (pc' := 46) hk (.istore 4) 2 rfl rfl rfl rfl ?_
  refine ev_ls (L' := [some (.ref 247), some (.long a1), none, some (.int v3), some (.int v6)]) (st' := [.ref 247]) (pc' := 47) hk (.aload_n 0) 1 rfl rfl rfl rfl ?_
  refine ev_cv 84 0 [.int (b2i (fM_isGood M5))] 50 hk rfl rfl rfl rfl lk_model rfl rfl rfl (rM_isGood rfl) rfl rfl rfl rfl ?_
  refine ev_d1 69 53 hk rfl rfl rfl rfl (px_beq hx (fun hc hx => ?_) (fun hc hx => ?_))
  · exact rM_labelLine_j69 hx hM 
  · refine ev_ls (L' := [some (.ref 247), some (.long a1), none, some (.int v3), some (.int v6)]) (st' := [.ref 247]) (pc' := 54) hk (.aload_n 0) 1 rfl rfl rfl rfl ?_
    refine ev_ls (L' := [some (.ref 247), some (.long a1), none, some (.int v3), some (.int v6)]) (st' := [.long a1, .ref 247]) (pc' := 55) hk (.lload_n 1) 1 rfl rfl rfl rfl ?_
    refine ev_ls (L' := [some (.ref 247), some (.long a1), none, some (.int v3), some (.int v6)]) (st' := [.int v3, .long a1, .ref 247]) (pc' := 56) hk (.iload_n 3) 1 rfl rfl rfl rfl ?_
    refine ev_ls (L' := [some (.ref 247), some (.long a1), none, some (.int v3), some (.int v6)]) (st' := [.int v6, .int v3, .long a1, .ref 247]) (pc' := 58) hk (.iload 4) 2 rfl rfl rfl rfl ?_
    obtain ⟨v8, hc9, hx⟩ := bnd_some hx
    refine ev_cv 115 3 [.int v8] 61 hk rfl rfl rfl rfl lk_model rfl rfl rfl (rM_labelWhy hc9) rfl rfl rfl rfl ?_
    refine ev_d1 69 64 hk rfl rfl rfl rfl (px_ceq hx (fun hc hx => ?_) (fun hc hx => ?_))
    · exact rM_labelLine_j69 hx hM 
    · refine ev_ls (L' := [some (.ref 247), some (.long a1), none, some (.int v3), some (.int v6)]) (st' := [.ref 247]) (pc' := 65) hk (.aload_n 0) 1 rfl rfl rfl rfl ?_
      refine ev_op (st' := [.int 5, .ref 247]) (pc' := 66) hk (.iconst 5) 1 rfl rfl rfl ?_
      obtain ⟨M10, hc11, hx⟩ := bnd_some hx
      refine ev_cv 203 1 [] 69 hk rfl rfl rfl rfl lk_model rfl rfl rfl (rM_wrong hc11) rfl rfl rfl rfl ?_
      exact rM_labelLine_j69 hx hM 
set_option maxRecDepth 2000 in
theorem rM_labelLine {S : Nat} {xs : Nat → Int32} {I : zI} {C : zC} {Y : Nat → Int32} {Γ : Nat → zG} {D : zD} {O : Nat → Int32} {M : zM} {ou : Nat → Int64} {od : Nat → UInt64} {j : Nat}  {X : zM}   (hx : fM_labelLine M = some X) : Ev S xs 111 0 [some (.ref 247), none, none, none, none] [] (zH I C Y Γ D O M ou od j) (((.inl none), (zH I C Y Γ D O X ou od j)) : (Option Value ⊕ String) × px_H) := by
  generalize hM : (((.inl none), (zH I C Y Γ D O X ou od j)) : (Option Value ⊕ String) × px_H) = y
  replace hM := hM.symm
  have hk : pt_mt[111]? = some pt_r111 := rfl
  unfold fM_labelLine at hx
  refine ev_ls (L' := [some (.ref 247), none, none, none, none]) (st' := [.ref 247]) (pc' := 1) hk (.aload_n 0) 1 rfl rfl rfl rfl ?_
  refine ev_ls (L' := [some (.ref 247), none, none, none, none]) (st' := [.ref 247, .ref 247]) (pc' := 2) hk (.aload_n 0) 1 rfl rfl rfl rfl ?_
  refine ev_gf (.ref 249) 5 hk rfl rfl lk_model rfl rfl ?_
  refine ev_op (st' := [.int 2, .ref 249, .ref 247]) (pc' := 6) hk (.iconst 2) 1 rfl rfl rfl ?_
  refine ev_ial (v := ((mA M 249) 2)) rfl 7 hk rfl lk_m249 rfl ?_
  refine ev_op (st' := [.int 8, .int ((mA M 249) 2), .ref 247]) (pc' := 9) hk (.bipush 8) 2 rfl rfl rfl ?_
  obtain ⟨M18, hc19, hx⟩ := bnd_some hx
  refine ev_cv 29 2 [] 12 hk rfl rfl rfl rfl lk_model rfl rfl rfl (rM_beginsLine hc19) rfl rfl rfl rfl ?_
  refine ev_ls (L' := [some (.ref 247), none, none, none, none]) (st' := [.ref 247]) (pc' := 13) hk (.aload_n 0) 1 rfl rfl rfl rfl ?_
  obtain ⟨v21, M20, hc22, hx⟩ := bnd2_some hx
  refine ev_cv 200 0 [.long v21] 16 hk rfl rfl rfl rfl lk_model rfl rfl rfl (rM_wordHere hc22) rfl rfl rfl rfl ?_
  refine ev_ls (L' := [some (.ref 247), some (.long v21), none, none, none]) (st' := []) (pc' := 17) hk (.lstore_n 1) 1 rfl rfl rfl rfl ?_
  refine ev_ls (L' := [some (.ref 247), some (.long v21), none, none, none]) (st' := [.ref 247]) (pc' := 18) hk (.aload_n 0) 1 rfl rfl rfl rfl ?_
  refine ev_cv 84 0 [.int (b2i (fM_isGood M20))] 21 hk rfl rfl rfl rfl lk_model rfl rfl rfl (rM_isGood rfl) rfl rfl rfl rfl ?_
  refine ev_d1 28 24 hk rfl rfl rfl rfl (px_beq hx (fun hc hx => ?_) (fun hc hx => ?_))
  · exact rM_labelLine_j28 hx hM 
  · refine ev_ls (L' := [some (.ref 247), some (.long v21), none, none, none]) (st' := [.ref 247]) (pc' := 25) hk (.aload_n 0) 1 rfl rfl rfl rfl ?_
    obtain ⟨M23, hc24, hx⟩ := bnd_some hx
    refine ev_cv 58 0 [] 28 hk rfl rfl rfl rfl lk_model rfl rfl rfl (rM_goOnRead hc24) rfl rfl rfl rfl ?_
    exact rM_labelLine_j28 hx hM 
set_option maxRecDepth 4000 in
theorem rM_hemLine_j42 {S : Nat} {xs : Nat → Int32} {I : zI} {C : zC} {Y : Nat → Int32} {Γ : Nat → zG} {D : zD} {O : Nat → Int32} {M : zM} {ou : Nat → Int64} {od : Nat → UInt64} {j : Nat} {a1 : Int32} {a2 : Int32} {y : (Option Value ⊕ String) × px_H} {x : zM}  (hx : fM_hemLine_j42 M a1 a2 = some x) (hM : (fun X : zM => y = (((.inl none), (zH I C Y Γ D O X ou od j)) : (Option Value ⊕ String) × px_H)) x)  : Ev S xs 68 42 [some (.ref 247), some (.int a1), some (.int a2)] [] (zH I C Y Γ D O M ou od j) y := by
  have hk : pt_mt[68]? = some pt_r68 := rfl
  unfold fM_hemLine_j42 at hx
  refine ev_ls (L' := [some (.ref 247), some (.int a1), some (.int a2)]) (st' := [.ref 247]) (pc' := 43) hk (.aload_n 0) 1 rfl rfl rfl rfl ?_
  refine ev_cv 84 0 [.int (b2i (fM_isGood M))] 46 hk rfl rfl rfl rfl lk_model rfl rfl rfl (rM_isGood rfl) rfl rfl rfl rfl ?_
  refine ev_d1 50 49 hk rfl rfl rfl rfl (px_bne hx (fun hc hx => ?_) (fun hc hx => ?_))
  · refine ev_ls (L' := [some (.ref 247), some (.int a1), some (.int a2)]) (st' := [.ref 247]) (pc' := 51) hk (.aload_n 0) 1 rfl rfl rfl rfl ?_
    refine ev_ls (L' := [some (.ref 247), some (.int a1), some (.int a2)]) (st' := [.ref 247, .ref 247]) (pc' := 52) hk (.aload_n 0) 1 rfl rfl rfl rfl ?_
    refine ev_ls (L' := [some (.ref 247), some (.int a1), some (.int a2)]) (st' := [.int a1, .ref 247, .ref 247]) (pc' := 53) hk (.iload_n 1) 1 rfl rfl rfl rfl ?_
    refine ev_ls (L' := [some (.ref 247), some (.int a1), some (.int a2)]) (st' := [.int a2, .int a1, .ref 247, .ref 247]) (pc' := 54) hk (.iload_n 2) 1 rfl rfl rfl rfl ?_
    obtain ⟨v3, M2, hc4, hx⟩ := bnd2_some hx
    refine ev_cv 138 2 [.int v3, .ref 247] 57 hk rfl rfl rfl rfl lk_model rfl rfl rfl (rM_movesHem hc4) rfl rfl rfl rfl ?_
    obtain ⟨M5, hM5, hx⟩ := bnd_some hx
    have hM5 := Option.some.inj hM5
    refine ev_pf 60 hk rfl rfl lk_model rfl rfl rfl (sf_8_29 hM5) rfl ?_
    refine ev_ls (L' := [some (.ref 247), some (.int a1), some (.int a2)]) (st' := [.ref 247]) (pc' := 61) hk (.aload_n 0) 1 rfl rfl rfl rfl ?_
    obtain ⟨M6, hc7, hx⟩ := bnd_some hx
    refine ev_cv 58 0 [] 64 hk rfl rfl rfl rfl lk_model rfl rfl rfl (rM_goOnRead hc7) rfl rfl rfl rfl ?_
    cases hx
    obtain rfl := hM
    exact ev_retv hk rfl rfl
  · cases hx
    obtain rfl := hM
    exact ev_retv hk rfl rfl
set_option maxRecDepth 2000 in
theorem rM_hemLine {S : Nat} {xs : Nat → Int32} {I : zI} {C : zC} {Y : Nat → Int32} {Γ : Nat → zG} {D : zD} {O : Nat → Int32} {M : zM} {ou : Nat → Int64} {od : Nat → UInt64} {j : Nat}  {X : zM}   (hx : fM_hemLine M = some X) : Ev S xs 68 0 [some (.ref 247), none, none] [] (zH I C Y Γ D O M ou od j) (((.inl none), (zH I C Y Γ D O X ou od j)) : (Option Value ⊕ String) × px_H) := by
  generalize hM : (((.inl none), (zH I C Y Γ D O X ou od j)) : (Option Value ⊕ String) × px_H) = y
  replace hM := hM.symm
  have hk : pt_mt[68]? = some pt_r68 := rfl
  unfold fM_hemLine at hx
  refine ev_ls (L' := [some (.ref 247), none, none]) (st' := [.ref 247]) (pc' := 1) hk (.aload_n 0) 1 rfl rfl rfl rfl ?_
  obtain ⟨M8, hc9, hx⟩ := bnd_some hx
  refine ev_cv 58 0 [] 4 hk rfl rfl rfl rfl lk_model rfl rfl rfl (rM_goOnRead hc9) rfl rfl rfl rfl ?_
  refine ev_ls (L' := [some (.ref 247), none, none]) (st' := [.ref 247]) (pc' := 5) hk (.aload_n 0) 1 rfl rfl rfl rfl ?_
  refine ev_op (st' := [.int 0, .ref 247]) (pc' := 6) hk (.iconst 0) 1 rfl rfl rfl ?_
  refine ev_op (st' := [.int 8, .int 0, .ref 247]) (pc' := 8) hk (.bipush 8) 2 rfl rfl rfl ?_
  obtain ⟨v11, M10, hc12, hx⟩ := bnd2_some hx
  refine ev_cv 136 2 [.int v11] 11 hk rfl rfl rfl rfl lk_model rfl rfl rfl (rM_more hc12) rfl rfl rfl rfl ?_
  refine ev_ls (L' := [some (.ref 247), some (.int v11), none]) (st' := []) (pc' := 12) hk (.istore_n 1) 1 rfl rfl rfl rfl ?_
  refine ev_ls (L' := [some (.ref 247), some (.int v11), none]) (st' := [.ref 247]) (pc' := 13) hk (.aload_n 0) 1 rfl rfl rfl rfl ?_
  refine ev_op (st' := [.int 0, .ref 247]) (pc' := 14) hk (.iconst 0) 1 rfl rfl rfl ?_
  refine ev_op (st' := [.int 359, .int 0, .ref 247]) (pc' := 17) hk (.sipush 359) 3 rfl rfl rfl ?_
  obtain ⟨v14, M13, hc15, hx⟩ := bnd2_some hx
  refine ev_cv 170 2 [.int v14] 20 hk rfl rfl rfl rfl lk_model rfl rfl rfl (rM_stays hc15) rfl rfl rfl rfl ?_
  refine ev_ls (L' := [some (.ref 247), some (.int v11), some (.int v14)]) (st' := []) (pc' := 21) hk (.istore_n 2) 1 rfl rfl rfl rfl ?_
  refine ev_ls (L' := [some (.ref 247), some (.int v11), some (.int v14)]) (st' := [.ref 247]) (pc' := 22) hk (.aload_n 0) 1 rfl rfl rfl rfl ?_
  refine ev_cv 84 0 [.int (b2i (fM_isGood M13))] 25 hk rfl rfl rfl rfl lk_model rfl rfl rfl (rM_isGood rfl) rfl rfl rfl rfl ?_
  refine ev_d1 42 28 hk rfl rfl rfl rfl (px_beq hx (fun hc hx => ?_) (fun hc hx => ?_))
  · exact rM_hemLine_j42 hx hM 
  · refine ev_ls (L' := [some (.ref 247), some (.int v11), some (.int v14)]) (st' := [.ref 247]) (pc' := 29) hk (.aload_n 0) 1 rfl rfl rfl rfl ?_
    refine ev_ls (L' := [some (.ref 247), some (.int v11), some (.int v14)]) (st' := [.int v11, .ref 247]) (pc' := 30) hk (.iload_n 1) 1 rfl rfl rfl rfl ?_
    refine ev_ls (L' := [some (.ref 247), some (.int v11), some (.int v14)]) (st' := [.int v14, .int v11, .ref 247]) (pc' := 31) hk (.iload_n 2) 1 rfl rfl rfl rfl ?_
    obtain ⟨v16, hc17, hx⟩ := bnd_some hx
    refine ev_cv 70 2 [.int v16] 34 hk rfl rfl rfl rfl lk_model rfl rfl rfl (rM_hemWhy hc17) rfl rfl rfl rfl ?_
    refine ev_d1 42 37 hk rfl rfl rfl rfl (px_ceq hx (fun hc hx => ?_) (fun hc hx => ?_))
    · exact rM_hemLine_j42 hx hM 
    · refine ev_ls (L' := [some (.ref 247), some (.int v11), some (.int v14)]) (st' := [.ref 247]) (pc' := 38) hk (.aload_n 0) 1 rfl rfl rfl rfl ?_
      refine ev_op (st' := [.int 5, .ref 247]) (pc' := 39) hk (.iconst 5) 1 rfl rfl rfl ?_
      obtain ⟨M18, hc19, hx⟩ := bnd_some hx
      refine ev_cv 203 1 [] 42 hk rfl rfl rfl rfl lk_model rfl rfl rfl (rM_wrong hc19) rfl rfl rfl rfl ?_
      exact rM_hemLine_j42 hx hM 
set_option maxRecDepth 4000 in
theorem rM_sewLine_j47 {S : Nat} {xs : Nat → Int32} {I : zI} {C : zC} {Y : Nat → Int32} {Γ : Nat → zG} {D : zD} {O : Nat → Int32} {M : zM} {ou : Nat → Int64} {od : Nat → UInt64} {j : Nat} {a1 : Int32} {a2 : Int32} {y : (Option Value ⊕ String) × px_H} {x : zM}  (hx : fM_sewLine_j47 M a1 a2 = some x) (hM : (fun X : zM => y = (((.inl none), (zH I C Y Γ D O X ou od j)) : (Option Value ⊕ String) × px_H)) x)  : Ev S xs 163 47 [some (.ref 247), some (.int a1), some (.int a2)] [] (zH I C Y Γ D O M ou od j) y := by
  have hk : pt_mt[163]? = some pt_r163 := rfl
  unfold fM_sewLine_j47 at hx
  refine ev_ls (L' := [some (.ref 247), some (.int a1), some (.int a2)]) (st' := [.ref 247]) (pc' := 48) hk (.aload_n 0) 1 rfl rfl rfl rfl ?_
  refine ev_cv 84 0 [.int (b2i (fM_isGood M))] 51 hk rfl rfl rfl rfl lk_model rfl rfl rfl (rM_isGood rfl) rfl rfl rfl rfl ?_
  refine ev_d1 55 54 hk rfl rfl rfl rfl (px_bne hx (fun hc hx => ?_) (fun hc hx => ?_))
  · refine ev_ls (L' := [some (.ref 247), some (.int a1), some (.int a2)]) (st' := [.ref 247]) (pc' := 56) hk (.aload_n 0) 1 rfl rfl rfl rfl ?_
    refine ev_ls (L' := [some (.ref 247), some (.int a1), some (.int a2)]) (st' := [.ref 247, .ref 247]) (pc' := 57) hk (.aload_n 0) 1 rfl rfl rfl rfl ?_
    refine ev_ls (L' := [some (.ref 247), some (.int a1), some (.int a2)]) (st' := [.int a1, .ref 247, .ref 247]) (pc' := 58) hk (.iload_n 1) 1 rfl rfl rfl rfl ?_
    refine ev_ls (L' := [some (.ref 247), some (.int a1), some (.int a2)]) (st' := [.int a2, .int a1, .ref 247, .ref 247]) (pc' := 59) hk (.iload_n 2) 1 rfl rfl rfl rfl ?_
    obtain ⟨v3, M2, hc4, hx⟩ := bnd2_some hx
    refine ev_cv 164 2 [.int v3, .ref 247] 62 hk rfl rfl rfl rfl lk_model rfl rfl rfl (rM_sews hc4) rfl rfl rfl rfl ?_
    obtain ⟨M5, hM5, hx⟩ := bnd_some hx
    have hM5 := Option.some.inj hM5
    refine ev_pf 65 hk rfl rfl lk_model rfl rfl rfl (sf_8_29 hM5) rfl ?_
    refine ev_ls (L' := [some (.ref 247), some (.int a1), some (.int a2)]) (st' := [.ref 247]) (pc' := 66) hk (.aload_n 0) 1 rfl rfl rfl rfl ?_
    obtain ⟨M6, hc7, hx⟩ := bnd_some hx
    refine ev_cv 58 0 [] 69 hk rfl rfl rfl rfl lk_model rfl rfl rfl (rM_goOnRead hc7) rfl rfl rfl rfl ?_
    cases hx
    obtain rfl := hM
    exact ev_retv hk rfl rfl
  · cases hx
    obtain rfl := hM
    exact ev_retv hk rfl rfl
set_option maxRecDepth 2000 in
theorem rM_sewLine {S : Nat} {xs : Nat → Int32} {I : zI} {C : zC} {Y : Nat → Int32} {Γ : Nat → zG} {D : zD} {O : Nat → Int32} {M : zM} {ou : Nat → Int64} {od : Nat → UInt64} {j : Nat}  {X : zM}   (hx : fM_sewLine M = some X) : Ev S xs 163 0 [some (.ref 247), none, none] [] (zH I C Y Γ D O M ou od j) (((.inl none), (zH I C Y Γ D O X ou od j)) : (Option Value ⊕ String) × px_H) := by
  generalize hM : (((.inl none), (zH I C Y Γ D O X ou od j)) : (Option Value ⊕ String) × px_H) = y
  replace hM := hM.symm
  have hk : pt_mt[163]? = some pt_r163 := rfl
  unfold fM_sewLine at hx
  refine ev_ls (L' := [some (.ref 247), none, none]) (st' := [.ref 247]) (pc' := 1) hk (.aload_n 0) 1 rfl rfl rfl rfl ?_
  obtain ⟨M8, hc9, hx⟩ := bnd_some hx
  refine ev_cv 58 0 [] 4 hk rfl rfl rfl rfl lk_model rfl rfl rfl (rM_goOnRead hc9) rfl rfl rfl rfl ?_
  refine ev_ls (L' := [some (.ref 247), none, none]) (st' := [.ref 247]) (pc' := 5) hk (.aload_n 0) 1 rfl rfl rfl rfl ?_
  refine ev_op (st' := [.int 0, .ref 247]) (pc' := 6) hk (.iconst 0) 1 rfl rfl rfl ?_
  refine ev_ls (L' := [some (.ref 247), none, none]) (st' := [.ref 247, .int 0, .ref 247]) (pc' := 7) hk (.aload_n 0) 1 rfl rfl rfl rfl ?_
  refine ev_gf (.ref 249) 10 hk rfl rfl lk_model rfl rfl ?_
  refine ev_op (st' := [.int 0, .ref 249, .int 0, .ref 247]) (pc' := 11) hk (.iconst 0) 1 rfl rfl rfl ?_
  refine ev_ial (v := ((mA M8 249) 0)) rfl 12 hk rfl lk_m249 rfl ?_
  refine ev_op (st' := [.int 1, .int ((mA M8 249) 0), .int 0, .ref 247]) (pc' := 13) hk (.iconst 1) 1 rfl rfl rfl ?_
  refine ev_op (st' := [.int (((mA M8 249) 0) - 1), .int 0, .ref 247]) (pc' := 14) hk (.isub) 1 rfl rfl rfl ?_
  obtain ⟨v11, M10, hc12, hx⟩ := bnd2_some hx
  refine ev_cv 136 2 [.int v11] 17 hk rfl rfl rfl rfl lk_model rfl rfl rfl (rM_more hc12) rfl rfl rfl rfl ?_
  refine ev_ls (L' := [some (.ref 247), some (.int v11), none]) (st' := []) (pc' := 18) hk (.istore_n 1) 1 rfl rfl rfl rfl ?_
  refine ev_ls (L' := [some (.ref 247), some (.int v11), none]) (st' := [.ref 247]) (pc' := 19) hk (.aload_n 0) 1 rfl rfl rfl rfl ?_
  refine ev_op (st' := [.int 1, .ref 247]) (pc' := 20) hk (.iconst 1) 1 rfl rfl rfl ?_
  refine ev_op (st' := [.int 99, .int 1, .ref 247]) (pc' := 22) hk (.bipush 99) 2 rfl rfl rfl ?_
  obtain ⟨v14, M13, hc15, hx⟩ := bnd2_some hx
  refine ev_cv 170 2 [.int v14] 25 hk rfl rfl rfl rfl lk_model rfl rfl rfl (rM_stays hc15) rfl rfl rfl rfl ?_
  refine ev_ls (L' := [some (.ref 247), some (.int v11), some (.int v14)]) (st' := []) (pc' := 26) hk (.istore_n 2) 1 rfl rfl rfl rfl ?_
  refine ev_ls (L' := [some (.ref 247), some (.int v11), some (.int v14)]) (st' := [.ref 247]) (pc' := 27) hk (.aload_n 0) 1 rfl rfl rfl rfl ?_
  refine ev_cv 84 0 [.int (b2i (fM_isGood M13))] 30 hk rfl rfl rfl rfl lk_model rfl rfl rfl (rM_isGood rfl) rfl rfl rfl rfl ?_
  refine ev_d1 47 33 hk rfl rfl rfl rfl (px_beq hx (fun hc hx => ?_) (fun hc hx => ?_))
  · exact rM_sewLine_j47 hx hM 
  · refine ev_ls (L' := [some (.ref 247), some (.int v11), some (.int v14)]) (st' := [.ref 247]) (pc' := 34) hk (.aload_n 0) 1 rfl rfl rfl rfl ?_
    refine ev_ls (L' := [some (.ref 247), some (.int v11), some (.int v14)]) (st' := [.int v11, .ref 247]) (pc' := 35) hk (.iload_n 1) 1 rfl rfl rfl rfl ?_
    refine ev_ls (L' := [some (.ref 247), some (.int v11), some (.int v14)]) (st' := [.int v14, .int v11, .ref 247]) (pc' := 36) hk (.iload_n 2) 1 rfl rfl rfl rfl ?_
    obtain ⟨v16, hc17, hx⟩ := bnd_some hx
    refine ev_cv 132 2 [.int (b2i v16)] 39 hk rfl rfl rfl rfl lk_model rfl rfl rfl (rM_maySew hc17) rfl rfl rfl rfl ?_
    refine ev_d1 47 42 hk rfl rfl rfl rfl (px_bne hx (fun hc hx => ?_) (fun hc hx => ?_))
    · exact rM_sewLine_j47 hx hM 
    · refine ev_ls (L' := [some (.ref 247), some (.int v11), some (.int v14)]) (st' := [.ref 247]) (pc' := 43) hk (.aload_n 0) 1 rfl rfl rfl rfl ?_
      refine ev_op (st' := [.int 5, .ref 247]) (pc' := 44) hk (.iconst 5) 1 rfl rfl rfl ?_
      obtain ⟨M18, hc19, hx⟩ := bnd_some hx
      refine ev_cv 203 1 [] 47 hk rfl rfl rfl rfl lk_model rfl rfl rfl (rM_wrong hc19) rfl rfl rfl rfl ?_
      exact rM_sewLine_j47 hx hM 
set_option maxRecDepth 4000 in
theorem rM_ripLine_j38 {S : Nat} {xs : Nat → Int32} {I : zI} {C : zC} {Y : Nat → Int32} {Γ : Nat → zG} {D : zD} {O : Nat → Int32} {M : zM} {ou : Nat → Int64} {od : Nat → UInt64} {j : Nat} {a1 : Int32} {y : (Option Value ⊕ String) × px_H} {x : zM}  (hx : fM_ripLine_j38 M a1 = some x) (hM : (fun X : zM => y = (((.inl none), (zH I C Y Γ D O X ou od j)) : (Option Value ⊕ String) × px_H)) x)  : Ev S xs 157 38 [some (.ref 247), some (.int a1)] [] (zH I C Y Γ D O M ou od j) y := by
  have hk : pt_mt[157]? = some pt_r157 := rfl
  unfold fM_ripLine_j38 at hx
  refine ev_ls (L' := [some (.ref 247), some (.int a1)]) (st' := [.ref 247]) (pc' := 39) hk (.aload_n 0) 1 rfl rfl rfl rfl ?_
  refine ev_cv 84 0 [.int (b2i (fM_isGood M))] 42 hk rfl rfl rfl rfl lk_model rfl rfl rfl (rM_isGood rfl) rfl rfl rfl rfl ?_
  refine ev_d1 46 45 hk rfl rfl rfl rfl (px_bne hx (fun hc hx => ?_) (fun hc hx => ?_))
  · refine ev_ls (L' := [some (.ref 247), some (.int a1)]) (st' := [.ref 247]) (pc' := 47) hk (.aload_n 0) 1 rfl rfl rfl rfl ?_
    refine ev_ls (L' := [some (.ref 247), some (.int a1)]) (st' := [.ref 247, .ref 247]) (pc' := 48) hk (.aload_n 0) 1 rfl rfl rfl rfl ?_
    refine ev_ls (L' := [some (.ref 247), some (.int a1)]) (st' := [.int a1, .ref 247, .ref 247]) (pc' := 49) hk (.iload_n 1) 1 rfl rfl rfl rfl ?_
    obtain ⟨v3, M2, hc4, hx⟩ := bnd2_some hx
    refine ev_cv 158 1 [.int v3, .ref 247] 52 hk rfl rfl rfl rfl lk_model rfl rfl rfl (rM_rips hc4) rfl rfl rfl rfl ?_
    obtain ⟨M5, hM5, hx⟩ := bnd_some hx
    have hM5 := Option.some.inj hM5
    refine ev_pf 55 hk rfl rfl lk_model rfl rfl rfl (sf_8_29 hM5) rfl ?_
    refine ev_ls (L' := [some (.ref 247), some (.int a1)]) (st' := [.ref 247]) (pc' := 56) hk (.aload_n 0) 1 rfl rfl rfl rfl ?_
    obtain ⟨M6, hc7, hx⟩ := bnd_some hx
    refine ev_cv 58 0 [] 59 hk rfl rfl rfl rfl lk_model rfl rfl rfl (rM_goOnRead hc7) rfl rfl rfl rfl ?_
    cases hx
    obtain rfl := hM
    exact ev_retv hk rfl rfl
  · cases hx
    obtain rfl := hM
    exact ev_retv hk rfl rfl
set_option maxRecDepth 2000 in
theorem rM_ripLine {S : Nat} {xs : Nat → Int32} {I : zI} {C : zC} {Y : Nat → Int32} {Γ : Nat → zG} {D : zD} {O : Nat → Int32} {M : zM} {ou : Nat → Int64} {od : Nat → UInt64} {j : Nat}  {X : zM}   (hx : fM_ripLine M = some X) : Ev S xs 157 0 [some (.ref 247), none] [] (zH I C Y Γ D O M ou od j) (((.inl none), (zH I C Y Γ D O X ou od j)) : (Option Value ⊕ String) × px_H) := by
  generalize hM : (((.inl none), (zH I C Y Γ D O X ou od j)) : (Option Value ⊕ String) × px_H) = y
  replace hM := hM.symm
  have hk : pt_mt[157]? = some pt_r157 := rfl
  unfold fM_ripLine at hx
  refine ev_ls (L' := [some (.ref 247), none]) (st' := [.ref 247]) (pc' := 1) hk (.aload_n 0) 1 rfl rfl rfl rfl ?_
  obtain ⟨M8, hc9, hx⟩ := bnd_some hx
  refine ev_cv 58 0 [] 4 hk rfl rfl rfl rfl lk_model rfl rfl rfl (rM_goOnRead hc9) rfl rfl rfl rfl ?_
  refine ev_ls (L' := [some (.ref 247), none]) (st' := [.ref 247]) (pc' := 5) hk (.aload_n 0) 1 rfl rfl rfl rfl ?_
  refine ev_op (st' := [.int 0, .ref 247]) (pc' := 6) hk (.iconst 0) 1 rfl rfl rfl ?_
  refine ev_ls (L' := [some (.ref 247), none]) (st' := [.ref 247, .int 0, .ref 247]) (pc' := 7) hk (.aload_n 0) 1 rfl rfl rfl rfl ?_
  refine ev_gf (.ref 249) 10 hk rfl rfl lk_model rfl rfl ?_
  refine ev_op (st' := [.int 0, .ref 249, .int 0, .ref 247]) (pc' := 11) hk (.iconst 0) 1 rfl rfl rfl ?_
  refine ev_ial (v := ((mA M8 249) 0)) rfl 12 hk rfl lk_m249 rfl ?_
  refine ev_op (st' := [.int 1, .int ((mA M8 249) 0), .int 0, .ref 247]) (pc' := 13) hk (.iconst 1) 1 rfl rfl rfl ?_
  refine ev_op (st' := [.int (((mA M8 249) 0) - 1), .int 0, .ref 247]) (pc' := 14) hk (.isub) 1 rfl rfl rfl ?_
  obtain ⟨v11, M10, hc12, hx⟩ := bnd2_some hx
  refine ev_cv 170 2 [.int v11] 17 hk rfl rfl rfl rfl lk_model rfl rfl rfl (rM_stays hc12) rfl rfl rfl rfl ?_
  refine ev_ls (L' := [some (.ref 247), some (.int v11)]) (st' := []) (pc' := 18) hk (.istore_n 1) 1 rfl rfl rfl rfl ?_
  refine ev_ls (L' := [some (.ref 247), some (.int v11)]) (st' := [.ref 247]) (pc' := 19) hk (.aload_n 0) 1 rfl rfl rfl rfl ?_
  refine ev_cv 84 0 [.int (b2i (fM_isGood M10))] 22 hk rfl rfl rfl rfl lk_model rfl rfl rfl (rM_isGood rfl) rfl rfl rfl rfl ?_
  refine ev_d1 38 25 hk rfl rfl rfl rfl (px_beq hx (fun hc hx => ?_) (fun hc hx => ?_))
  · exact rM_ripLine_j38 hx hM 
  · refine ev_ls (L' := [some (.ref 247), some (.int v11)]) (st' := [.ref 247]) (pc' := 26) hk (.aload_n 0) 1 rfl rfl rfl rfl ?_
    refine ev_ls (L' := [some (.ref 247), some (.int v11)]) (st' := [.int v11, .ref 247]) (pc' := 27) hk (.iload_n 1) 1 rfl rfl rfl rfl ?_
    obtain ⟨v13, hc14, hx⟩ := bnd_some hx
    refine ev_cv 131 1 [.int (b2i v13)] 30 hk rfl rfl rfl rfl lk_model rfl rfl rfl (rM_mayRip hc14) rfl rfl rfl rfl ?_
    refine ev_d1 38 33 hk rfl rfl rfl rfl (px_bne hx (fun hc hx => ?_) (fun hc hx => ?_))
    · exact rM_ripLine_j38 hx hM 
    · refine ev_ls (L' := [some (.ref 247), some (.int v11)]) (st' := [.ref 247]) (pc' := 34) hk (.aload_n 0) 1 rfl rfl rfl rfl ?_
      refine ev_op (st' := [.int 5, .ref 247]) (pc' := 35) hk (.iconst 5) 1 rfl rfl rfl ?_
      obtain ⟨M15, hc16, hx⟩ := bnd_some hx
      refine ev_cv 203 1 [] 38 hk rfl rfl rfl rfl lk_model rfl rfl rfl (rM_wrong hc16) rfl rfl rfl rfl ?_
      exact rM_ripLine_j38 hx hM 
set_option maxRecDepth 4000 in
theorem rM_directionHere_j32 {S : Nat} {xs : Nat → Int32} {I : zI} {C : zC} {Y : Nat → Int32} {Γ : Nat → zG} {D : zD} {O : Nat → Int32} {M : zM} {ou : Nat → Int64} {od : Nat → UInt64} {j : Nat}  {y : (Option Value ⊕ String) × px_H} {x : Int32 × zM}  (hx : fM_directionHere_j32 M = some x) (hM : (fun X : Int32 × zM => y = (((.inl (some (.int X.1))), (zH I C Y Γ D O X.2 ou od j)) : (Option Value ⊕ String) × px_H)) x)  : Ev S xs 46 32 [some (.ref 247), none] [] (zH I C Y Γ D O M ou od j) y := by
  have hk : pt_mt[46]? = some pt_r46 := rfl
  unfold fM_directionHere_j32 at hx
  refine ev_ls (L' := [some (.ref 247), none]) (st' := [.ref 247]) (pc' := 33) hk (.aload_n 0) 1 rfl rfl rfl rfl ?_
  refine ev_ldJ 759412 36 hk rfl rfl rfl ?_
  refine ev_cv 102 1 [.int (b2i (fM_isWord M 759412))] 39 hk rfl rfl rfl rfl lk_model rfl rfl rfl (rM_isWord rfl) rfl rfl rfl rfl ?_
  refine ev_cs 189 1 [.int (fM_truth (fM_isWord M 759412))] 42 hk rfl rfl (by decide) rfl rfl rfl (rM_truth rfl) rfl rfl rfl rfl ?_
  refine ev_ls (L' := [some (.ref 247), some (.int (fM_truth (fM_isWord M 759412)))]) (st' := []) (pc' := 43) hk (.istore_n 1) 1 rfl rfl rfl rfl ?_
  refine ev_ls (L' := [some (.ref 247), some (.int (fM_truth (fM_isWord M 759412)))]) (st' := [.ref 247]) (pc' := 44) hk (.aload_n 0) 1 rfl rfl rfl rfl ?_
  refine ev_cv 84 0 [.int (b2i (fM_isGood M))] 47 hk rfl rfl rfl rfl lk_model rfl rfl rfl (rM_isGood rfl) rfl rfl rfl rfl ?_
  refine ev_d1 54 50 hk rfl rfl rfl rfl (px_beq hx (fun hc hx => ?_) (fun hc hx => ?_))
  · refine ev_ls (L' := [some (.ref 247), some (.int (fM_truth (fM_isWord M 759412)))]) (st' := [.int (fM_truth (fM_isWord M 759412))]) (pc' := 55) hk (.iload_n 1) 1 rfl rfl rfl rfl ?_
    cases hx
    obtain rfl := hM
    exact ev_retI hk rfl rfl
  · refine ev_ls (L' := [some (.ref 247), some (.int (fM_truth (fM_isWord M 759412)))]) (st' := [.ref 247]) (pc' := 51) hk (.aload_n 0) 1 rfl rfl rfl rfl ?_
    obtain ⟨M1, hc2, hx⟩ := bnd_some hx
    refine ev_cv 58 0 [] 54 hk rfl rfl rfl rfl lk_model rfl rfl rfl (rM_goOnRead hc2) rfl rfl rfl rfl ?_
    refine ev_ls (L' := [some (.ref 247), some (.int (fM_truth (fM_isWord M 759412)))]) (st' := [.int (fM_truth (fM_isWord M 759412))]) (pc' := 55) hk (.iload_n 1) 1 rfl rfl rfl rfl ?_
    cases hx
    obtain rfl := hM
    exact ev_retI hk rfl rfl
set_option maxRecDepth 2000 in
theorem rM_directionHere {S : Nat} {xs : Nat → Int32} {I : zI} {C : zC} {Y : Nat → Int32} {Γ : Nat → zG} {D : zD} {O : Nat → Int32} {M : zM} {ou : Nat → Int64} {od : Nat → UInt64} {j : Nat}  {X : Int32 × zM}   (hx : fM_directionHere M = some X) : Ev S xs 46 0 [some (.ref 247), none] [] (zH I C Y Γ D O M ou od j) (((.inl (some (.int X.1))), (zH I C Y Γ D O X.2 ou od j)) : (Option Value ⊕ String) × px_H) := by
  generalize hM : (((.inl (some (.int X.1))), (zH I C Y Γ D O X.2 ou od j)) : (Option Value ⊕ String) × px_H) = y
  replace hM := hM.symm
  have hk : pt_mt[46]? = some pt_r46 := rfl
  unfold fM_directionHere at hx
  refine ev_ls (L' := [some (.ref 247), none]) (st' := [.ref 247]) (pc' := 1) hk (.aload_n 0) 1 rfl rfl rfl rfl ?_
  refine ev_cv 84 0 [.int (b2i (fM_isGood M))] 4 hk rfl rfl rfl rfl lk_model rfl rfl rfl (rM_isGood rfl) rfl rfl rfl rfl ?_
  refine ev_d1 32 7 hk rfl rfl rfl rfl (px_beq hx (fun hc hx => ?_) (fun hc hx => ?_))
  · exact rM_directionHere_j32 hx hM 
  · refine ev_ls (L' := [some (.ref 247), none]) (st' := [.ref 247]) (pc' := 8) hk (.aload_n 0) 1 rfl rfl rfl rfl ?_
    refine ev_ldJ 165492 11 hk rfl rfl rfl ?_
    refine ev_cv 102 1 [.int (b2i (fM_isWord M 165492))] 14 hk rfl rfl rfl rfl lk_model rfl rfl rfl (rM_isWord rfl) rfl rfl rfl rfl ?_
    refine ev_d1 32 17 hk rfl rfl rfl rfl (px_bne hx (fun hc hx => ?_) (fun hc hx => ?_))
    · exact rM_directionHere_j32 hx hM 
    · refine ev_ls (L' := [some (.ref 247), none]) (st' := [.ref 247]) (pc' := 18) hk (.aload_n 0) 1 rfl rfl rfl rfl ?_
      refine ev_ldJ 759412 21 hk rfl rfl rfl ?_
      refine ev_cv 102 1 [.int (b2i (fM_isWord M 759412))] 24 hk rfl rfl rfl rfl lk_model rfl rfl rfl (rM_isWord rfl) rfl rfl rfl rfl ?_
      refine ev_d1 32 27 hk rfl rfl rfl rfl (px_bne hx (fun hc hx => ?_) (fun hc hx => ?_))
      · exact rM_directionHere_j32 hx hM 
      · refine ev_ls (L' := [some (.ref 247), none]) (st' := [.ref 247]) (pc' := 28) hk (.aload_n 0) 1 rfl rfl rfl rfl ?_
        refine ev_op (st' := [.int 1, .ref 247]) (pc' := 29) hk (.iconst 1) 1 rfl rfl rfl ?_
        obtain ⟨M3, hc4, hx⟩ := bnd_some hx
        refine ev_cv 203 1 [] 32 hk rfl rfl rfl rfl lk_model rfl rfl rfl (rM_wrong hc4) rfl rfl rfl rfl ?_
        exact rM_directionHere_j32 hx hM 
set_option maxRecDepth 4000 in
theorem rM_walkLine_j74 {S : Nat} {xs : Nat → Int32} {I : zI} {C : zC} {Y : Nat → Int32} {Γ : Nat → zG} {D : zD} {O : Nat → Int32} {M : zM} {ou : Nat → Int64} {od : Nat → UInt64} {j : Nat} {a3 : Int32} {y : (Option Value ⊕ String) × px_H} {x : zM}  (hx : fM_walkLine_j74 M a3 = some x) (hM : (fun X : zM => y = (((.inl none), (zH I C Y Γ D O X ou od j)) : (Option Value ⊕ String) × px_H)) x) (u1 : Option Value) : Ev S xs 194 74 [some (.ref 247), u1, none, some (.int a3), none, none] [] (zH I C Y Γ D O M ou od j) y := by
  have hk : pt_mt[194]? = some pt_r194 := rfl
  unfold fM_walkLine_j74 at hx
  refine ev_ls (L' := [some (.ref 247), u1, none, some (.int a3), none, none]) (st' := [.ref 247]) (pc' := 75) hk (.aload_n 0) 1 rfl rfl rfl rfl ?_
  obtain ⟨v11, M10, hc12, hx⟩ := bnd2_some hx
  refine ev_cv 46 0 [.int v11] 78 hk rfl rfl rfl rfl lk_model rfl rfl rfl (rM_directionHere hc12) rfl rfl rfl rfl ?_
  refine ev_ls (L' := [some (.ref 247), u1, none, some (.int a3), some (.int v11), none]) (st' := []) (pc' := 80) hk (.istore 4) 2 rfl rfl rfl rfl ?_
  refine ev_ls (L' := [some (.ref 247), u1, none, some (.int a3), some (.int v11), none]) (st' := [.ref 247]) (pc' := 81) hk (.aload_n 0) 1 rfl rfl rfl rfl ?_
  refine ev_op (st' := [.int 0, .ref 247]) (pc' := 82) hk (.iconst 0) 1 rfl rfl rfl ?_
  refine ev_op (st' := [.int 359, .int 0, .ref 247]) (pc' := 85) hk (.sipush 359) 3 rfl rfl rfl ?_
  obtain ⟨v14, M13, hc15, hx⟩ := bnd2_some hx
  refine ev_cv 136 2 [.int v14] 88 hk rfl rfl rfl rfl lk_model rfl rfl rfl (rM_more hc15) rfl rfl rfl rfl ?_
  refine ev_ls (L' := [some (.ref 247), u1, none, some (.int a3), some (.int v11), some (.int v14)]) (st' := []) (pc' := 90) hk (.istore 5) 2 rfl rfl rfl rfl ?_
  refine ev_ls (L' := [some (.ref 247), u1, none, some (.int a3), some (.int v11), some (.int v14)]) (st' := [.ref 247]) (pc' := 91) hk (.aload_n 0) 1 rfl rfl rfl rfl ?_
  refine ev_cv 84 0 [.int (b2i (fM_isGood M13))] 94 hk rfl rfl rfl rfl lk_model rfl rfl rfl (rM_isGood rfl) rfl rfl rfl rfl ?_
  refine ev_d1 110 97 hk rfl rfl rfl rfl (px_beq hx (fun hc hx => ?_) (fun hc hx => ?_))
  · cases hx
    obtain rfl := hM
    exact ev_retv hk rfl rfl
  · refine ev_ls (L' := [some (.ref 247), u1, none, some (.int a3), some (.int v11), some (.int v14)]) (st' := [.ref 247]) (pc' := 98) hk (.aload_n 0) 1 rfl rfl rfl rfl ?_
    refine ev_ls (L' := [some (.ref 247), u1, none, some (.int a3), some (.int v11), some (.int v14)]) (st' := [.ref 247, .ref 247]) (pc' := 99) hk (.aload_n 0) 1 rfl rfl rfl rfl ?_
    refine ev_ls (L' := [some (.ref 247), u1, none, some (.int a3), some (.int v11), some (.int v14)]) (st' := [.int a3, .ref 247, .ref 247]) (pc' := 100) hk (.iload_n 3) 1 rfl rfl rfl rfl ?_
    refine ev_ls (L' := [some (.ref 247), u1, none, some (.int a3), some (.int v11), some (.int v14)]) (st' := [.int v11, .int a3, .ref 247, .ref 247]) (pc' := 102) hk (.iload 4) 2 rfl rfl rfl rfl ?_
    refine ev_ls (L' := [some (.ref 247), u1, none, some (.int a3), some (.int v11), some (.int v14)]) (st' := [.int v14, .int v11, .int a3, .ref 247, .ref 247]) (pc' := 104) hk (.iload 5) 2 rfl rfl rfl rfl ?_
    obtain ⟨v17, M16, hc18, hx⟩ := bnd2_some hx
    refine ev_cv 179 3 [.int v17, .ref 247] 107 hk rfl rfl rfl rfl lk_model rfl rfl rfl (rM_tells hc18) rfl rfl rfl rfl ?_
    obtain ⟨M19, hM19, hx⟩ := bnd_some hx
    have hM19 := Option.some.inj hM19
    refine ev_pf 110 hk rfl rfl lk_model rfl rfl rfl (sf_8_29 hM19) rfl ?_
    cases hx
    obtain rfl := hM
    exact ev_retv hk rfl rfl
set_option maxRecDepth 4000 in
theorem rM_walkLine_j63 {S : Nat} {xs : Nat → Int32} {I : zI} {C : zC} {Y : Nat → Int32} {Γ : Nat → zG} {D : zD} {O : Nat → Int32} {M : zM} {ou : Nat → Int64} {od : Nat → UInt64} {j : Nat} {a3 : Int32} {y : (Option Value ⊕ String) × px_H} {x : zM}  (hx : fM_walkLine_j63 M a3 = some x) (hM : (fun X : zM => y = (((.inl none), (zH I C Y Γ D O X ou od j)) : (Option Value ⊕ String) × px_H)) x) (u1 : Option Value) : Ev S xs 194 63 [some (.ref 247), u1, none, some (.int a3), none, none] [] (zH I C Y Γ D O M ou od j) y := by
  have hk : pt_mt[194]? = some pt_r194 := rfl
  unfold fM_walkLine_j63 at hx
  refine ev_ls (L' := [some (.ref 247), u1, none, some (.int a3), none, none]) (st' := [.ref 247]) (pc' := 64) hk (.aload_n 0) 1 rfl rfl rfl rfl ?_
  refine ev_cv 84 0 [.int (b2i (fM_isGood M))] 67 hk rfl rfl rfl rfl lk_model rfl rfl rfl (rM_isGood rfl) rfl rfl rfl rfl ?_
  refine ev_d1 74 70 hk rfl rfl rfl rfl (px_beq hx (fun hc hx => ?_) (fun hc hx => ?_))
  · exact rM_walkLine_j74 hx hM u1
  · refine ev_ls (L' := [some (.ref 247), u1, none, some (.int a3), none, none]) (st' := [.ref 247]) (pc' := 71) hk (.aload_n 0) 1 rfl rfl rfl rfl ?_
    obtain ⟨M8, hc9, hx⟩ := bnd_some hx
    refine ev_cv 58 0 [] 74 hk rfl rfl rfl rfl lk_model rfl rfl rfl (rM_goOnRead hc9) rfl rfl rfl rfl ?_
    exact rM_walkLine_j74 hx hM u1
set_option maxRecDepth 4000 in
theorem rM_walkLine_j43 {S : Nat} {xs : Nat → Int32} {I : zI} {C : zC} {Y : Nat → Int32} {Γ : Nat → zG} {D : zD} {O : Nat → Int32} {M : zM} {ou : Nat → Int64} {od : Nat → UInt64} {j : Nat} {a3 : Int32} {y : (Option Value ⊕ String) × px_H} {x : zM}  (hx : fM_walkLine_j43 M a3 = some x) (hM : (fun X : zM => y = (((.inl none), (zH I C Y Γ D O X ou od j)) : (Option Value ⊕ String) × px_H)) x) (u1 : Option Value) : Ev S xs 194 43 [some (.ref 247), u1, none, some (.int a3), none, none] [] (zH I C Y Γ D O M ou od j) y := by
  have hk : pt_mt[194]? = some pt_r194 := rfl
  unfold fM_walkLine_j43 at hx
  refine ev_ls (L' := [some (.ref 247), u1, none, some (.int a3), none, none]) (st' := [.ref 247]) (pc' := 44) hk (.aload_n 0) 1 rfl rfl rfl rfl ?_
  refine ev_cv 84 0 [.int (b2i (fM_isGood M))] 47 hk rfl rfl rfl rfl lk_model rfl rfl rfl (rM_isGood rfl) rfl rfl rfl rfl ?_
  refine ev_d1 63 50 hk rfl rfl rfl rfl (px_beq hx (fun hc hx => ?_) (fun hc hx => ?_))
  · exact rM_walkLine_j63 hx hM u1
  · refine ev_ls (L' := [some (.ref 247), u1, none, some (.int a3), none, none]) (st' := [.ref 247]) (pc' := 51) hk (.aload_n 0) 1 rfl rfl rfl rfl ?_
    refine ev_ls (L' := [some (.ref 247), u1, none, some (.int a3), none, none]) (st' := [.int a3, .ref 247]) (pc' := 52) hk (.iload_n 3) 1 rfl rfl rfl rfl ?_
    obtain ⟨v4, hc5, hx⟩ := bnd_some hx
    refine ev_cv 187 1 [.int (b2i v4)] 55 hk rfl rfl rfl rfl lk_model rfl rfl rfl (rM_travels hc5) rfl rfl rfl rfl ?_
    refine ev_d1 63 58 hk rfl rfl rfl rfl (px_bne hx (fun hc hx => ?_) (fun hc hx => ?_))
    · exact rM_walkLine_j63 hx hM u1
    · refine ev_ls (L' := [some (.ref 247), u1, none, some (.int a3), none, none]) (st' := [.ref 247]) (pc' := 59) hk (.aload_n 0) 1 rfl rfl rfl rfl ?_
      refine ev_op (st' := [.int 5, .ref 247]) (pc' := 60) hk (.iconst 5) 1 rfl rfl rfl ?_
      obtain ⟨M6, hc7, hx⟩ := bnd_some hx
      refine ev_cv 203 1 [] 63 hk rfl rfl rfl rfl lk_model rfl rfl rfl (rM_wrong hc7) rfl rfl rfl rfl ?_
      exact rM_walkLine_j63 hx hM u1
set_option maxRecDepth 4000 in
theorem rM_walkLine_j25 {S : Nat} {xs : Nat → Int32} {I : zI} {C : zC} {Y : Nat → Int32} {Γ : Nat → zG} {D : zD} {O : Nat → Int32} {M : zM} {ou : Nat → Int64} {od : Nat → UInt64} {j : Nat} {a0t : Int32} {y : (Option Value ⊕ String) × px_H} {x : zM}  (hx : fM_walkLine_j25 M a0t = some x) (hM : (fun X : zM => y = (((.inl none), (zH I C Y Γ D O X ou od j)) : (Option Value ⊕ String) × px_H)) x) (u1 : Option Value) : Ev S xs 194 25 [some (.ref 247), u1, none, none, none, none] [.int a0t] (zH I C Y Γ D O M ou od j) y := by
  have hk : pt_mt[194]? = some pt_r194 := rfl
  unfold fM_walkLine_j25 at hx
  refine ev_ls (L' := [some (.ref 247), u1, none, some (.int a0t), none, none]) (st' := []) (pc' := 26) hk (.istore_n 3) 1 rfl rfl rfl rfl ?_
  refine ev_ls (L' := [some (.ref 247), u1, none, some (.int a0t), none, none]) (st' := [.ref 247]) (pc' := 27) hk (.aload_n 0) 1 rfl rfl rfl rfl ?_
  refine ev_cv 84 0 [.int (b2i (fM_isGood M))] 30 hk rfl rfl rfl rfl lk_model rfl rfl rfl (rM_isGood rfl) rfl rfl rfl rfl ?_
  refine ev_d1 43 33 hk rfl rfl rfl rfl (px_beq hx (fun hc hx => ?_) (fun hc hx => ?_))
  · exact rM_walkLine_j43 hx hM u1
  · refine ev_ls (L' := [some (.ref 247), u1, none, some (.int a0t), none, none]) (st' := [.int a0t]) (pc' := 34) hk (.iload_n 3) 1 rfl rfl rfl rfl ?_
    refine ev_op (st' := [.int (-1), .int a0t]) (pc' := 35) hk (.iconst (-1)) 1 rfl rfl rfl ?_
    refine ev_d2 43 38 hk rfl rfl rfl rfl (px_cne hx (fun hc hx => ?_) (fun hc hx => ?_))
    · exact rM_walkLine_j43 hx hM u1
    · refine ev_ls (L' := [some (.ref 247), u1, none, some (.int a0t), none, none]) (st' := [.ref 247]) (pc' := 39) hk (.aload_n 0) 1 rfl rfl rfl rfl ?_
      refine ev_op (st' := [.int 4, .ref 247]) (pc' := 40) hk (.iconst 4) 1 rfl rfl rfl ?_
      obtain ⟨M2, hc3, hx⟩ := bnd_some hx
      refine ev_cv 203 1 [] 43 hk rfl rfl rfl rfl lk_model rfl rfl rfl (rM_wrong hc3) rfl rfl rfl rfl ?_
      exact rM_walkLine_j43 hx hM u1
set_option maxRecDepth 2000 in
theorem rM_walkLine {S : Nat} {xs : Nat → Int32} {I : zI} {C : zC} {Y : Nat → Int32} {Γ : Nat → zG} {D : zD} {O : Nat → Int32} {M : zM} {ou : Nat → Int64} {od : Nat → UInt64} {j : Nat}  {X : zM}   (hx : fM_walkLine M = some X) : Ev S xs 194 0 [some (.ref 247), none, none, none, none, none] [] (zH I C Y Γ D O M ou od j) (((.inl none), (zH I C Y Γ D O X ou od j)) : (Option Value ⊕ String) × px_H) := by
  generalize hM : (((.inl none), (zH I C Y Γ D O X ou od j)) : (Option Value ⊕ String) × px_H) = y
  replace hM := hM.symm
  have hk : pt_mt[194]? = some pt_r194 := rfl
  unfold fM_walkLine at hx
  refine ev_ls (L' := [some (.ref 247), none, none, none, none, none]) (st' := [.ref 247]) (pc' := 1) hk (.aload_n 0) 1 rfl rfl rfl rfl ?_
  obtain ⟨M20, hc21, hx⟩ := bnd_some hx
  refine ev_cv 58 0 [] 4 hk rfl rfl rfl rfl lk_model rfl rfl rfl (rM_goOnRead hc21) rfl rfl rfl rfl ?_
  refine ev_ls (L' := [some (.ref 247), none, none, none, none, none]) (st' := [.ref 247]) (pc' := 5) hk (.aload_n 0) 1 rfl rfl rfl rfl ?_
  obtain ⟨v23, M22, hc24, hx⟩ := bnd2_some hx
  refine ev_cv 200 0 [.long v23] 8 hk rfl rfl rfl rfl lk_model rfl rfl rfl (rM_wordHere hc24) rfl rfl rfl rfl ?_
  refine ev_ls (L' := [some (.ref 247), some (.long v23), none, none, none, none]) (st' := []) (pc' := 9) hk (.lstore_n 1) 1 rfl rfl rfl rfl ?_
  refine ev_ls (L' := [some (.ref 247), some (.long v23), none, none, none, none]) (st' := [.ref 247]) (pc' := 10) hk (.aload_n 0) 1 rfl rfl rfl rfl ?_
  refine ev_cv 84 0 [.int (b2i (fM_isGood M22))] 13 hk rfl rfl rfl rfl lk_model rfl rfl rfl (rM_isGood rfl) rfl rfl rfl rfl ?_
  refine ev_d1 24 16 hk rfl rfl rfl rfl (px_beq hx (fun hc hx => ?_) (fun hc hx => ?_))
  · refine ev_op (st' := [.int (-1)]) (pc' := 25) hk (.iconst (-1)) 1 rfl rfl rfl ?_
    exact rM_walkLine_j25 hx hM (some (.long v23))
  · refine ev_ls (L' := [some (.ref 247), some (.long v23), none, none, none, none]) (st' := [.ref 247]) (pc' := 17) hk (.aload_n 0) 1 rfl rfl rfl rfl ?_
    refine ev_ls (L' := [some (.ref 247), some (.long v23), none, none, none, none]) (st' := [.long v23, .ref 247]) (pc' := 18) hk (.lload_n 1) 1 rfl rfl rfl rfl ?_
    obtain ⟨v25, hc26, hx⟩ := bnd_some hx
    refine ev_cv 167 1 [.int v25] 21 hk rfl rfl rfl rfl lk_model rfl rfl rfl (rM_spotNamed hc26) rfl rfl rfl rfl ?_
    refine ev_jp (pc' := 25) (st' := [.int v25]) hk (.goto 4) 3 rfl rfl rfl rfl rfl ?_
    exact rM_walkLine_j25 hx hM (some (.long v23))
set_option maxRecDepth 2000 in
theorem rM_threadLine {S : Nat} {xs : Nat → Int32} {I : zI} {C : zC} {Y : Nat → Int32} {Γ : Nat → zG} {D : zD} {O : Nat → Int32} {M : zM} {ou : Nat → Int64} {od : Nat → UInt64} {j : Nat}  {X : zM}   (hx : fM_threadLine M = some X) : Ev S xs 182 0 [some (.ref 247), none] [] (zH I C Y Γ D O M ou od j) (((.inl none), (zH I C Y Γ D O X ou od j)) : (Option Value ⊕ String) × px_H) := by
  generalize hM : (((.inl none), (zH I C Y Γ D O X ou od j)) : (Option Value ⊕ String) × px_H) = y
  replace hM := hM.symm
  have hk : pt_mt[182]? = some pt_r182 := rfl
  unfold fM_threadLine at hx
  refine ev_ls (L' := [some (.ref 247), none]) (st' := [.ref 247]) (pc' := 1) hk (.aload_n 0) 1 rfl rfl rfl rfl ?_
  obtain ⟨M2, hc3, hx⟩ := bnd_some hx
  refine ev_cv 58 0 [] 4 hk rfl rfl rfl rfl lk_model rfl rfl rfl (rM_goOnRead hc3) rfl rfl rfl rfl ?_
  refine ev_ls (L' := [some (.ref 247), none]) (st' := [.ref 247]) (pc' := 5) hk (.aload_n 0) 1 rfl rfl rfl rfl ?_
  refine ev_op (st' := [.int 0, .ref 247]) (pc' := 6) hk (.iconst 0) 1 rfl rfl rfl ?_
  refine ev_op (st' := [.int 9999, .int 0, .ref 247]) (pc' := 9) hk (.sipush 9999) 3 rfl rfl rfl ?_
  obtain ⟨v5, M4, hc6, hx⟩ := bnd2_some hx
  refine ev_cv 136 2 [.int v5] 12 hk rfl rfl rfl rfl lk_model rfl rfl rfl (rM_more hc6) rfl rfl rfl rfl ?_
  refine ev_ls (L' := [some (.ref 247), some (.int v5)]) (st' := []) (pc' := 13) hk (.istore_n 1) 1 rfl rfl rfl rfl ?_
  refine ev_ls (L' := [some (.ref 247), some (.int v5)]) (st' := [.ref 247]) (pc' := 14) hk (.aload_n 0) 1 rfl rfl rfl rfl ?_
  refine ev_cv 84 0 [.int (b2i (fM_isGood M4))] 17 hk rfl rfl rfl rfl lk_model rfl rfl rfl (rM_isGood rfl) rfl rfl rfl rfl ?_
  refine ev_d1 27 20 hk rfl rfl rfl rfl (px_beq hx (fun hc hx => ?_) (fun hc hx => ?_))
  · cases hx
    obtain rfl := hM
    exact ev_retv hk rfl rfl
  · refine ev_ls (L' := [some (.ref 247), some (.int v5)]) (st' := [.ref 247]) (pc' := 21) hk (.aload_n 0) 1 rfl rfl rfl rfl ?_
    refine ev_gf (.ref 249) 24 hk rfl rfl lk_model rfl rfl ?_
    refine ev_op (st' := [.int 3, .ref 249]) (pc' := 25) hk (.iconst 3) 1 rfl rfl rfl ?_
    refine ev_ls (L' := [some (.ref 247), some (.int v5)]) (st' := [.int v5, .int 3, .ref 249]) (pc' := 26) hk (.iload_n 1) 1 rfl rfl rfl rfl ?_
    obtain ⟨M7, hM7, hx⟩ := bnd_some hx
    have hM7 := Option.some.inj hM7
    refine ev_ias (A := (upd (mA M4 249) 3 v5)) rfl 27 hk rfl lk_m249 (sa_m249 hM7) rfl ?_
    cases hx
    obtain rfl := hM
    exact ev_retv hk rfl rfl
set_option maxRecDepth 2000 in
theorem rM_passLine {S : Nat} {xs : Nat → Int32} {I : zI} {C : zC} {Y : Nat → Int32} {Γ : Nat → zG} {D : zD} {O : Nat → Int32} {M : zM} {ou : Nat → Int64} {od : Nat → UInt64} {j : Nat}  {X : zM}   (hx : fM_passLine M = some X) : Ev S xs 148 0 [some (.ref 247), none] [] (zH I C Y Γ D O M ou od j) (((.inl none), (zH I C Y Γ D O X ou od j)) : (Option Value ⊕ String) × px_H) := by
  generalize hM : (((.inl none), (zH I C Y Γ D O X ou od j)) : (Option Value ⊕ String) × px_H) = y
  replace hM := hM.symm
  have hk : pt_mt[148]? = some pt_r148 := rfl
  unfold fM_passLine at hx
  refine ev_ls (L' := [some (.ref 247), none]) (st' := [.ref 247]) (pc' := 1) hk (.aload_n 0) 1 rfl rfl rfl rfl ?_
  obtain ⟨M2, hc3, hx⟩ := bnd_some hx
  refine ev_cv 58 0 [] 4 hk rfl rfl rfl rfl lk_model rfl rfl rfl (rM_goOnRead hc3) rfl rfl rfl rfl ?_
  refine ev_ls (L' := [some (.ref 247), none]) (st' := [.ref 247]) (pc' := 5) hk (.aload_n 0) 1 rfl rfl rfl rfl ?_
  refine ev_op (st' := [.int 1, .ref 247]) (pc' := 6) hk (.iconst 1) 1 rfl rfl rfl ?_
  refine ev_op (st' := [.int 240, .int 1, .ref 247]) (pc' := 9) hk (.sipush 240) 3 rfl rfl rfl ?_
  obtain ⟨v5, M4, hc6, hx⟩ := bnd2_some hx
  refine ev_cv 136 2 [.int v5] 12 hk rfl rfl rfl rfl lk_model rfl rfl rfl (rM_more hc6) rfl rfl rfl rfl ?_
  refine ev_ls (L' := [some (.ref 247), some (.int v5)]) (st' := []) (pc' := 13) hk (.istore_n 1) 1 rfl rfl rfl rfl ?_
  refine ev_ls (L' := [some (.ref 247), some (.int v5)]) (st' := [.ref 247]) (pc' := 14) hk (.aload_n 0) 1 rfl rfl rfl rfl ?_
  refine ev_cv 84 0 [.int (b2i (fM_isGood M4))] 17 hk rfl rfl rfl rfl lk_model rfl rfl rfl (rM_isGood rfl) rfl rfl rfl rfl ?_
  refine ev_d1 29 20 hk rfl rfl rfl rfl (px_beq hx (fun hc hx => ?_) (fun hc hx => ?_))
  · cases hx
    obtain rfl := hM
    exact ev_retv hk rfl rfl
  · refine ev_ls (L' := [some (.ref 247), some (.int v5)]) (st' := [.ref 247]) (pc' := 21) hk (.aload_n 0) 1 rfl rfl rfl rfl ?_
    refine ev_ls (L' := [some (.ref 247), some (.int v5)]) (st' := [.ref 247, .ref 247]) (pc' := 22) hk (.aload_n 0) 1 rfl rfl rfl rfl ?_
    refine ev_ls (L' := [some (.ref 247), some (.int v5)]) (st' := [.int v5, .ref 247, .ref 247]) (pc' := 23) hk (.iload_n 1) 1 rfl rfl rfl rfl ?_
    obtain ⟨v8, M7, hc9, hx⟩ := bnd2_some hx
    refine ev_cv 149 1 [.int v8, .ref 247] 26 hk rfl rfl rfl rfl lk_model rfl rfl rfl (rM_passes hc9) rfl rfl rfl rfl ?_
    obtain ⟨M10, hM10, hx⟩ := bnd_some hx
    have hM10 := Option.some.inj hM10
    refine ev_pf 29 hk rfl rfl lk_model rfl rfl rfl (sf_8_29 hM10) rfl ?_
    cases hx
    obtain rfl := hM
    exact ev_retv hk rfl rfl
set_option maxRecDepth 4000 in
theorem rM_statement {S : Nat} {xs : Nat → Int32} {I : zI} {C : zC} {Y : Nat → Int32} {Γ : Nat → zG} {D : zD} {O : Nat → Int32} {M : zM} {ou : Nat → Int64} {od : Nat → UInt64} {j : Nat}  {X : zM}   (hx : fM_statement M = some X) : Ev S xs 169 0 [some (.ref 247)] [] (zH I C Y Γ D O M ou od j) (((.inl none), (zH I C Y Γ D O X ou od j)) : (Option Value ⊕ String) × px_H) := by
  generalize hM : (((.inl none), (zH I C Y Γ D O X ou od j)) : (Option Value ⊕ String) × px_H) = y
  replace hM := hM.symm
  have hk : pt_mt[169]? = some pt_r169 := rfl
  unfold fM_statement at hx
  refine ev_ls (L' := [some (.ref 247)]) (st' := [.ref 247]) (pc' := 1) hk (.aload_n 0) 1 rfl rfl rfl rfl ?_
  refine ev_ldJ 671470 4 hk rfl rfl rfl ?_
  refine ev_cv 102 1 [.int (b2i (fM_isWord M 671470))] 7 hk rfl rfl rfl rfl lk_model rfl rfl rfl (rM_isWord rfl) rfl rfl rfl rfl ?_
  refine ev_d1 18 10 hk rfl rfl rfl rfl (px_beq hx (fun hc hx => ?_) (fun hc hx => ?_))
  · refine ev_ls (L' := [some (.ref 247)]) (st' := [.ref 247]) (pc' := 19) hk (.aload_n 0) 1 rfl rfl rfl rfl ?_
    refine ev_ldJ 542723566 22 hk rfl rfl rfl ?_
    refine ev_cv 102 1 [.int (b2i (fM_isWord M 542723566))] 25 hk rfl rfl rfl rfl lk_model rfl rfl rfl (rM_isWord rfl) rfl rfl rfl rfl ?_
    refine ev_d1 36 28 hk rfl rfl rfl rfl (px_beq hx (fun hc hx => ?_) (fun hc hx => ?_))
    · refine ev_ls (L' := [some (.ref 247)]) (st' := [.ref 247]) (pc' := 37) hk (.aload_n 0) 1 rfl rfl rfl rfl ?_
      refine ev_ldJ 12617900 40 hk rfl rfl rfl ?_
      refine ev_cv 102 1 [.int (b2i (fM_isWord M 12617900))] 43 hk rfl rfl rfl rfl lk_model rfl rfl rfl (rM_isWord rfl) rfl rfl rfl rfl ?_
      refine ev_d1 53 46 hk rfl rfl rfl rfl (px_beq hx (fun hc hx => ?_) (fun hc hx => ?_))
      · refine ev_ls (L' := [some (.ref 247)]) (st' := [.ref 247]) (pc' := 54) hk (.aload_n 0) 1 rfl rfl rfl rfl ?_
        refine ev_ldJ 8365 57 hk rfl rfl rfl ?_
        refine ev_cv 102 1 [.int (b2i (fM_isWord M 8365))] 60 hk rfl rfl rfl rfl lk_model rfl rfl rfl (rM_isWord rfl) rfl rfl rfl rfl ?_
        refine ev_d1 70 63 hk rfl rfl rfl rfl (px_beq hx (fun hc hx => ?_) (fun hc hx => ?_))
        · refine ev_ls (L' := [some (.ref 247)]) (st' := [.ref 247]) (pc' := 71) hk (.aload_n 0) 1 rfl rfl rfl rfl ?_
          refine ev_ldJ 19639 74 hk rfl rfl rfl ?_
          refine ev_cv 102 1 [.int (b2i (fM_isWord M 19639))] 77 hk rfl rfl rfl rfl lk_model rfl rfl rfl (rM_isWord rfl) rfl rfl rfl rfl ?_
          refine ev_d1 87 80 hk rfl rfl rfl rfl (px_beq hx (fun hc hx => ?_) (fun hc hx => ?_))
          · refine ev_ls (L' := [some (.ref 247)]) (st' := [.ref 247]) (pc' := 88) hk (.aload_n 0) 1 rfl rfl rfl rfl ?_
            refine ev_ldJ 18736 91 hk rfl rfl rfl ?_
            refine ev_cv 102 1 [.int (b2i (fM_isWord M 18736))] 94 hk rfl rfl rfl rfl lk_model rfl rfl rfl (rM_isWord rfl) rfl rfl rfl rfl ?_
            refine ev_d1 104 97 hk rfl rfl rfl rfl (px_beq hx (fun hc hx => ?_) (fun hc hx => ?_))
            · refine ev_ls (L' := [some (.ref 247)]) (st' := [.ref 247]) (pc' := 105) hk (.aload_n 0) 1 rfl rfl rfl rfl ?_
              refine ev_ldJ 755083 108 hk rfl rfl rfl ?_
              refine ev_cv 102 1 [.int (b2i (fM_isWord M 755083))] 111 hk rfl rfl rfl rfl lk_model rfl rfl rfl (rM_isWord rfl) rfl rfl rfl rfl ?_
              refine ev_d1 121 114 hk rfl rfl rfl rfl (px_beq hx (fun hc hx => ?_) (fun hc hx => ?_))
              · refine ev_ls (L' := [some (.ref 247)]) (st' := [.ref 247]) (pc' := 122) hk (.aload_n 0) 1 rfl rfl rfl rfl ?_
                refine ev_ldJ 680072228 125 hk rfl rfl rfl ?_
                refine ev_cv 102 1 [.int (b2i (fM_isWord M 680072228))] 128 hk rfl rfl rfl rfl lk_model rfl rfl rfl (rM_isWord rfl) rfl rfl rfl rfl ?_
                refine ev_d1 138 131 hk rfl rfl rfl rfl (px_beq hx (fun hc hx => ?_) (fun hc hx => ?_))
                · refine ev_ls (L' := [some (.ref 247)]) (st' := [.ref 247]) (pc' := 139) hk (.aload_n 0) 1 rfl rfl rfl rfl ?_
                  refine ev_ldJ 525939 142 hk rfl rfl rfl ?_
                  refine ev_cv 102 1 [.int (b2i (fM_isWord M 525939))] 145 hk rfl rfl rfl rfl lk_model rfl rfl rfl (rM_isWord rfl) rfl rfl rfl rfl ?_
                  refine ev_d1 155 148 hk rfl rfl rfl rfl (px_beq hx (fun hc hx => ?_) (fun hc hx => ?_))
                  · refine ev_ls (L' := [some (.ref 247)]) (st' := [.ref 247]) (pc' := 156) hk (.aload_n 0) 1 rfl rfl rfl rfl ?_
                    refine ev_op (st' := [.int 1, .ref 247]) (pc' := 157) hk (.iconst 1) 1 rfl rfl rfl ?_
                    obtain ⟨M1, hc2, hx⟩ := bnd_some hx
                    refine ev_cv 203 1 [] 160 hk rfl rfl rfl rfl lk_model rfl rfl rfl (rM_wrong hc2) rfl rfl rfl rfl ?_
                    cases hx
                    obtain rfl := hM
                    exact ev_retv hk rfl rfl
                  · refine ev_ls (L' := [some (.ref 247)]) (st' := [.ref 247]) (pc' := 149) hk (.aload_n 0) 1 rfl rfl rfl rfl ?_
                    obtain ⟨M3, hc4, hx⟩ := bnd_some hx
                    refine ev_cv 148 0 [] 152 hk rfl rfl rfl rfl lk_model rfl rfl rfl (rM_passLine hc4) rfl rfl rfl rfl ?_
                    refine ev_jp (pc' := 160) (st' := []) hk (.goto 8) 3 rfl rfl rfl rfl rfl ?_
                    cases hx
                    obtain rfl := hM
                    exact ev_retv hk rfl rfl
                · refine ev_ls (L' := [some (.ref 247)]) (st' := [.ref 247]) (pc' := 132) hk (.aload_n 0) 1 rfl rfl rfl rfl ?_
                  obtain ⟨M5, hc6, hx⟩ := bnd_some hx
                  refine ev_cv 182 0 [] 135 hk rfl rfl rfl rfl lk_model rfl rfl rfl (rM_threadLine hc6) rfl rfl rfl rfl ?_
                  refine ev_jp (pc' := 160) (st' := []) hk (.goto 25) 3 rfl rfl rfl rfl rfl ?_
                  cases hx
                  obtain rfl := hM
                  exact ev_retv hk rfl rfl
              · refine ev_ls (L' := [some (.ref 247)]) (st' := [.ref 247]) (pc' := 115) hk (.aload_n 0) 1 rfl rfl rfl rfl ?_
                obtain ⟨M7, hc8, hx⟩ := bnd_some hx
                refine ev_cv 194 0 [] 118 hk rfl rfl rfl rfl lk_model rfl rfl rfl (rM_walkLine hc8) rfl rfl rfl rfl ?_
                refine ev_jp (pc' := 160) (st' := []) hk (.goto 42) 3 rfl rfl rfl rfl rfl ?_
                cases hx
                obtain rfl := hM
                exact ev_retv hk rfl rfl
            · refine ev_ls (L' := [some (.ref 247)]) (st' := [.ref 247]) (pc' := 98) hk (.aload_n 0) 1 rfl rfl rfl rfl ?_
              obtain ⟨M9, hc10, hx⟩ := bnd_some hx
              refine ev_cv 157 0 [] 101 hk rfl rfl rfl rfl lk_model rfl rfl rfl (rM_ripLine hc10) rfl rfl rfl rfl ?_
              refine ev_jp (pc' := 160) (st' := []) hk (.goto 59) 3 rfl rfl rfl rfl rfl ?_
              cases hx
              obtain rfl := hM
              exact ev_retv hk rfl rfl
          · refine ev_ls (L' := [some (.ref 247)]) (st' := [.ref 247]) (pc' := 81) hk (.aload_n 0) 1 rfl rfl rfl rfl ?_
            obtain ⟨M11, hc12, hx⟩ := bnd_some hx
            refine ev_cv 163 0 [] 84 hk rfl rfl rfl rfl lk_model rfl rfl rfl (rM_sewLine hc12) rfl rfl rfl rfl ?_
            refine ev_jp (pc' := 160) (st' := []) hk (.goto 76) 3 rfl rfl rfl rfl rfl ?_
            cases hx
            obtain rfl := hM
            exact ev_retv hk rfl rfl
        · refine ev_ls (L' := [some (.ref 247)]) (st' := [.ref 247]) (pc' := 64) hk (.aload_n 0) 1 rfl rfl rfl rfl ?_
          obtain ⟨M13, hc14, hx⟩ := bnd_some hx
          refine ev_cv 68 0 [] 67 hk rfl rfl rfl rfl lk_model rfl rfl rfl (rM_hemLine hc14) rfl rfl rfl rfl ?_
          refine ev_jp (pc' := 160) (st' := []) hk (.goto 93) 3 rfl rfl rfl rfl rfl ?_
          cases hx
          obtain rfl := hM
          exact ev_retv hk rfl rfl
      · refine ev_ls (L' := [some (.ref 247)]) (st' := [.ref 247]) (pc' := 47) hk (.aload_n 0) 1 rfl rfl rfl rfl ?_
        obtain ⟨M15, hc16, hx⟩ := bnd_some hx
        refine ev_cv 111 0 [] 50 hk rfl rfl rfl rfl lk_model rfl rfl rfl (rM_labelLine hc16) rfl rfl rfl rfl ?_
        refine ev_jp (pc' := 160) (st' := []) hk (.goto 110) 3 rfl rfl rfl rfl rfl ?_
        cases hx
        obtain rfl := hM
        exact ev_retv hk rfl rfl
    · refine ev_ls (L' := [some (.ref 247)]) (st' := [.ref 247]) (pc' := 29) hk (.aload_n 0) 1 rfl rfl rfl rfl ?_
      refine ev_op (st' := [.int 1, .ref 247]) (pc' := 30) hk (.iconst 1) 1 rfl rfl rfl ?_
      obtain ⟨M17, hc18, hx⟩ := bnd_some hx
      refine ev_cv 166 1 [] 33 hk rfl rfl rfl rfl lk_model rfl rfl rfl (rM_spotLine hc18) rfl rfl rfl rfl ?_
      refine ev_jp (pc' := 160) (st' := []) hk (.goto 127) 3 rfl rfl rfl rfl rfl ?_
      cases hx
      obtain rfl := hM
      exact ev_retv hk rfl rfl
  · refine ev_ls (L' := [some (.ref 247)]) (st' := [.ref 247]) (pc' := 11) hk (.aload_n 0) 1 rfl rfl rfl rfl ?_
    refine ev_op (st' := [.int 0, .ref 247]) (pc' := 12) hk (.iconst 0) 1 rfl rfl rfl ?_
    obtain ⟨M19, hc20, hx⟩ := bnd_some hx
    refine ev_cv 166 1 [] 15 hk rfl rfl rfl rfl lk_model rfl rfl rfl (rM_spotLine hc20) rfl rfl rfl rfl ?_
    refine ev_jp (pc' := 160) (st' := []) hk (.goto 145) 3 rfl rfl rfl rfl rfl ?_
    cases hx
    obtain rfl := hM
    exact ev_retv hk rfl rfl
set_option maxRecDepth 2000 in
theorem rM_goesBack {S : Nat} {xs : Nat → Int32} {I : zI} {C : zC} {Y : Nat → Int32} {Γ : Nat → zG} {D : zD} {O : Nat → Int32} {M : zM} {ou : Nat → Int64} {od : Nat → UInt64} {j : Nat}  {X : zM}   (hx : fM_goesBack M = some X) : Ev S xs 60 0 [some (.ref 247)] [] (zH I C Y Γ D O M ou od j) (((.inl none), (zH I C Y Γ D O X ou od j)) : (Option Value ⊕ String) × px_H) := by
  generalize hM : (((.inl none), (zH I C Y Γ D O X ou od j)) : (Option Value ⊕ String) × px_H) = y
  replace hM := hM.symm
  have hk : pt_mt[60]? = some pt_r60 := rfl
  unfold fM_goesBack at hx
  refine ev_ls (L' := [some (.ref 247)]) (st' := [.ref 247]) (pc' := 1) hk (.aload_n 0) 1 rfl rfl rfl rfl ?_
  refine ev_gf (.ref 251) 4 hk rfl rfl lk_model rfl rfl ?_
  refine ev_op (st' := [.int 0, .ref 251]) (pc' := 5) hk (.iconst 0) 1 rfl rfl rfl ?_
  refine ev_ls (L' := [some (.ref 247)]) (st' := [.ref 247, .int 0, .ref 251]) (pc' := 6) hk (.aload_n 0) 1 rfl rfl rfl rfl ?_
  refine ev_gf (.ref 249) 9 hk rfl rfl lk_model rfl rfl ?_
  refine ev_op (st' := [.int 0, .ref 249, .int 0, .ref 251]) (pc' := 10) hk (.iconst 0) 1 rfl rfl rfl ?_
  obtain ⟨M1, hc2, hx⟩ := bnd_some hx
  refine ev_cs 37 4 [] 13 hk rfl rfl (by decide) rfl rfl rfl (rM_copiesRow (ma_251) (ma_249) hc2) rfl rfl rfl rfl ?_
  cases hx
  obtain rfl := hM
  exact ev_retv hk rfl rfl
def qM_readText_23 (S : Nat) (xs : Nat → Int32) (I : zI) (C : zC) (Y : Nat → Int32) (Γ : Nat → zG) (D : zD) (O : Nat → Int32) (ou : Nat → Int64) (od : Nat → UInt64) (j : Nat) (y : (Option Value ⊕ String) × px_H) (s : zM) : Prop := Ev S xs 153 23 [some (.ref 247)] [] (zH I C Y Γ D O s ou od j) y
set_option maxRecDepth 4000 in
theorem rM_readText_j50 {S : Nat} {xs : Nat → Int32} {I : zI} {C : zC} {Y : Nat → Int32} {Γ : Nat → zG} {D : zD} {O : Nat → Int32} {M : zM} {ou : Nat → Int64} {od : Nat → UInt64} {j : Nat}  {y : (Option Value ⊕ String) × px_H} {x : Int32 × zM}  (hx : fM_readText_j50 M = some x) (hM : (fun X : Int32 × zM => y = (((.inl (some (.int X.1))), (zH I C Y Γ D O X.2 ou od j)) : (Option Value ⊕ String) × px_H)) x)  : Ev S xs 153 50 [some (.ref 247)] [] (zH I C Y Γ D O M ou od j) y := by
  have hk : pt_mt[153]? = some pt_r153 := rfl
  unfold fM_readText_j50 at hx
  refine ev_ls (L' := [some (.ref 247)]) (st' := [.ref 247]) (pc' := 51) hk (.aload_n 0) 1 rfl rfl rfl rfl ?_
  obtain ⟨v3, M2, hc4, hx⟩ := bnd2_some hx
  refine ev_cv 50 0 [.int (b2i v3)] 54 hk rfl rfl rfl rfl lk_model rfl rfl rfl (rM_endsText hc4) rfl rfl rfl rfl ?_
  refine ev_d1 63 57 hk rfl rfl rfl rfl (px_bne hx (fun hc hx => ?_) (fun hc hx => ?_))
  · refine ev_ls (L' := [some (.ref 247)]) (st' := [.ref 247]) (pc' := 64) hk (.aload_n 0) 1 rfl rfl rfl rfl ?_
    refine ev_op (st' := [.int 0, .ref 247]) (pc' := 65) hk (.iconst 0) 1 rfl rfl rfl ?_
    obtain ⟨M5, hM5, hx⟩ := bnd_some hx
    have hM5 := Option.some.inj hM5
    refine ev_pf 68 hk rfl rfl lk_model rfl rfl rfl (sf_8_18 hM5) rfl ?_
    refine ev_ls (L' := [some (.ref 247)]) (st' := [.ref 247]) (pc' := 69) hk (.aload_n 0) 1 rfl rfl rfl rfl ?_
    refine ev_gf (.ref 249) 72 hk rfl rfl lk_model rfl rfl ?_
    refine ev_op (st' := [.int 1, .ref 249]) (pc' := 73) hk (.iconst 1) 1 rfl rfl rfl ?_
    refine ev_ial (v := ((mA M5 249) 1)) rfl 74 hk rfl lk_m249 rfl ?_
    cases hx
    obtain rfl := hM
    exact ev_retI hk rfl rfl
  · refine ev_ls (L' := [some (.ref 247)]) (st' := [.ref 247]) (pc' := 58) hk (.aload_n 0) 1 rfl rfl rfl rfl ?_
    obtain ⟨M6, hc7, hx⟩ := bnd_some hx
    refine ev_cv 60 0 [] 61 hk rfl rfl rfl rfl lk_model rfl rfl rfl (rM_goesBack hc7) rfl rfl rfl rfl ?_
    refine ev_op (st' := [.int 0]) (pc' := 62) hk (.iconst 0) 1 rfl rfl rfl ?_
    cases hx
    obtain rfl := hM
    exact ev_retI hk rfl rfl
set_option maxRecDepth 4000 in
theorem rM_readText_b23 {S : Nat} {xs : Nat → Int32} {I : zI} {C : zC} {Y : Nat → Int32} {Γ : Nat → zG} {D : zD} {O : Nat → Int32} {ou : Nat → Int64} {od : Nat → UInt64} {j : Nat}  {y : (Option Value ⊕ String) × px_H} {s : zM} {x : (zM) ⊕ (Int32 × zM)}  (hx : fM_readText_b23 s = some x) (hM : (Sum.elim (qM_readText_23 S xs I C Y Γ D O ou od j y) (fun X : Int32 × zM => y = (((.inl (some (.int X.1))), (zH I C Y Γ D O X.2 ou od j)) : (Option Value ⊕ String) × px_H))) x) : qM_readText_23 S xs I C Y Γ D O ou od j y s := by
  revert hx
  generalize s = M
  intro hx
  have hk : pt_mt[153]? = some pt_r153 := rfl
  unfold fM_readText_b23 at hx
  try dsimp only at hx
  refine ev_ls (L' := [some (.ref 247)]) (st' := [.ref 247]) (pc' := 24) hk (.aload_n 0) 1 rfl rfl rfl rfl ?_
  refine ev_cv 84 0 [.int (b2i (fM_isGood M))] 27 hk rfl rfl rfl rfl lk_model rfl rfl rfl (rM_isGood rfl) rfl rfl rfl rfl ?_
  refine ev_d1 50 30 hk rfl rfl rfl rfl (px_beq hx (fun hc hx => ?_) (fun hc hx => ?_))
  · obtain ⟨X, hx2, hX⟩ := Option.map_eq_some_iff.mp hx
    clear hx; subst hX; have hx := hx2; clear hx2
    exact rM_readText_j50 hx hM 
  · refine ev_ls (L' := [some (.ref 247)]) (st' := [.ref 247]) (pc' := 31) hk (.aload_n 0) 1 rfl rfl rfl rfl ?_
    refine ev_gf (.int (mF M 6)) 34 hk rfl rfl lk_model rfl rfl ?_
    refine ev_d1 50 37 hk rfl rfl rfl rfl (px_ceq hx (fun hc hx => ?_) (fun hc hx => ?_))
    · obtain ⟨X, hx2, hX⟩ := Option.map_eq_some_iff.mp hx
      clear hx; subst hX; have hx := hx2; clear hx2
      exact rM_readText_j50 hx hM 
    · refine ev_ls (L' := [some (.ref 247)]) (st' := [.ref 247]) (pc' := 38) hk (.aload_n 0) 1 rfl rfl rfl rfl ?_
      obtain ⟨M8, hc9, hx⟩ := bnd_some hx
      refine ev_cv 169 0 [] 41 hk rfl rfl rfl rfl lk_model rfl rfl rfl (rM_statement hc9) rfl rfl rfl rfl ?_
      refine ev_ls (L' := [some (.ref 247)]) (st' := [.ref 247]) (pc' := 42) hk (.aload_n 0) 1 rfl rfl rfl rfl ?_
      refine ev_op (st' := [.int 59, .ref 247]) (pc' := 44) hk (.bipush 59) 2 rfl rfl rfl ?_
      obtain ⟨M10, hc11, hx⟩ := bnd_some hx
      refine ev_cv 139 1 [] 47 hk rfl rfl rfl rfl lk_model rfl rfl rfl (rM_mustSign hc11) rfl rfl rfl rfl ?_
      refine ev_jp (pc' := 23) (st' := []) hk (.goto (-24)) 3 rfl rfl rfl rfl rfl ?_
      cases hx
      exact hM
set_option maxRecDepth 2000 in
theorem rM_readText {S : Nat} {xs : Nat → Int32} {I : zI} {C : zC} {Y : Nat → Int32} {Γ : Nat → zG} {D : zD} {O : Nat → Int32} {M : zM} {ou : Nat → Int64} {od : Nat → UInt64} {j : Nat}  {X : Int32 × zM}   (hx : fM_readText M = some X) : Ev S xs 153 0 [some (.ref 247)] [] (zH I C Y Γ D O M ou od j) (((.inl (some (.int X.1))), (zH I C Y Γ D O X.2 ou od j)) : (Option Value ⊕ String) × px_H) := by
  generalize hM : (((.inl (some (.int X.1))), (zH I C Y Γ D O X.2 ou od j)) : (Option Value ⊕ String) × px_H) = y
  replace hM := hM.symm
  have hk : pt_mt[153]? = some pt_r153 := rfl
  unfold fM_readText at hx
  refine ev_ls (L' := [some (.ref 247)]) (st' := [.ref 247]) (pc' := 1) hk (.aload_n 0) 1 rfl rfl rfl rfl ?_
  obtain ⟨M12, hc13, hx⟩ := bnd_some hx
  refine ev_cv 117 0 [] 4 hk rfl rfl rfl rfl lk_model rfl rfl rfl (rM_laysAside hc13) rfl rfl rfl rfl ?_
  refine ev_ls (L' := [some (.ref 247)]) (st' := [.ref 247]) (pc' := 5) hk (.aload_n 0) 1 rfl rfl rfl rfl ?_
  obtain ⟨M14, hc15, hx⟩ := bnd_some hx
  refine ev_cv 30 0 [] 8 hk rfl rfl rfl rfl lk_model rfl rfl rfl (rM_beginsText hc15) rfl rfl rfl rfl ?_
  refine ev_ls (L' := [some (.ref 247)]) (st' := [.ref 247]) (pc' := 9) hk (.aload_n 0) 1 rfl rfl rfl rfl ?_
  obtain ⟨M16, hc17, hx⟩ := bnd_some hx
  refine ev_cv 28 0 [] 12 hk rfl rfl rfl rfl lk_model rfl rfl rfl (rM_begins hc17) rfl rfl rfl rfl ?_
  refine ev_ls (L' := [some (.ref 247)]) (st' := [.ref 247]) (pc' := 13) hk (.aload_n 0) 1 rfl rfl rfl rfl ?_
  refine ev_ldJ 7748677 16 hk rfl rfl rfl ?_
  obtain ⟨M18, hc19, hx⟩ := bnd_some hx
  refine ev_cv 140 1 [] 19 hk rfl rfl rfl rfl lk_model rfl rfl rfl (rM_mustWord hc19) rfl rfl rfl rfl ?_
  refine ev_ls (L' := [some (.ref 247)]) (st' := [.ref 247]) (pc' := 20) hk (.aload_n 0) 1 rfl rfl rfl rfl ?_
  obtain ⟨M20, hc21, hx⟩ := bnd_some hx
  refine ev_cv 66 0 [] 23 hk rfl rfl rfl rfl lk_model rfl rfl rfl (rM_goresLine hc21) rfl rfl rfl rfl ?_
  exact ev_iter (qM_readText_23 S xs I C Y Γ D O ou od j _) (fun X : Int32 × zM => y = (((.inl (some (.int X.1))), (zH I C Y Γ D O X.2 ou od j)) : (Option Value ⊕ String) × px_H)) (fun s x hb hM => rM_readText_b23 hb hM) fu _ _ hx hM 
set_option maxRecDepth 4000 in
theorem rX_truncate_j15 {S : Nat} {xs : Nat → Int32} {I : zI} {C : zC} {Y : Nat → Int32} {Γ : Nat → zG} {D : zD} {O : Nat → Int32} {M : zM} {ou : Nat → Int64} {od : Nat → UInt64} {j : Nat}  {y : (Option Value ⊕ String) × px_H} {x : (Int32 ⊕ String) × zI}  (hx : fX_truncate_j15 I = some x) (hM : (fun X : (Int32 ⊕ String) × zI => y = (Sum.elim (fun v => ((.inl (some (.int v))), (zH X.2 C Y Γ D O M ou od j))) (fun E => (.inr E, (zH X.2 C Y Γ D O M ou od (j + 1)))) X.1 : (Option Value ⊕ String) × px_H)) x) (u0 : Option Value) (hu0 : px_cz u0 = true) (u1 : Option Value) (hu1 : px_cz u1 = true) : Ev S xs 363 15 [u0, u1] [] (zH I C Y Γ D O M ou od j) y := by
  have hk : pt_mt[363]? = some pt_r363 := rfl
  unfold fX_truncate_j15 at hx
  cases hx
  obtain rfl := hM
  exact ev_tw hk rfl (by rfl) rfl zH_j
set_option maxRecDepth 2000 in
theorem rX_truncate {S : Nat} {xs : Nat → Int32} {I : zI} {C : zC} {Y : Nat → Int32} {Γ : Nat → zG} {D : zD} {O : Nat → Int32} {M : zM} {ou : Nat → Int64} {od : Nat → UInt64} {j : Nat} {a1 : Int32} {X : (Int32 ⊕ String) × zI}   (hx : fX_truncate I a1 = some X) : Ev S xs 363 0 [some (.ref 0), some (.int a1)] [] (zH I C Y Γ D O M ou od j) (Sum.elim (fun v => ((.inl (some (.int v))), (zH X.2 C Y Γ D O M ou od j))) (fun E => (.inr E, (zH X.2 C Y Γ D O M ou od (j + 1)))) X.1 : (Option Value ⊕ String) × px_H) := by
  generalize hM : (Sum.elim (fun v => ((.inl (some (.int v))), (zH X.2 C Y Γ D O M ou od j))) (fun E => (.inr E, (zH X.2 C Y Γ D O M ou od (j + 1)))) X.1 : (Option Value ⊕ String) × px_H) = y
  replace hM := hM.symm
  have hk : pt_mt[363]? = some pt_r363 := rfl
  unfold fX_truncate at hx
  refine ev_ls (L' := [some (.ref 0), some (.int a1)]) (st' := [.int a1]) (pc' := 1) hk (.iload_n 1) 1 rfl rfl rfl rfl ?_
  refine ev_d1 15 4 hk rfl rfl rfl rfl (px_clt hx (fun hc hx => ?_) (fun hc hx => ?_))
  · exact rX_truncate_j15 hx hM (some (.ref 0)) rfl (some (.int a1)) rfl
  · refine ev_ls (L' := [some (.ref 0), some (.int a1)]) (st' := [.int a1]) (pc' := 5) hk (.iload_n 1) 1 rfl rfl rfl rfl ?_
    refine ev_ls (L' := [some (.ref 0), some (.int a1)]) (st' := [.ref 0, .int a1]) (pc' := 6) hk (.aload_n 0) 1 rfl rfl rfl rfl ?_
    refine ev_gf (.ref 1) 9 hk rfl rfl lk_dh rfl rfl ?_
    refine ev_gf (.int (iF I 1)) 12 hk rfl rfl lk_input rfl rfl ?_
    refine ev_d2 25 15 hk rfl rfl rfl rfl (px_cle hx (fun hc hx => ?_) (fun hc hx => ?_))
    · refine ev_ls (L' := [some (.ref 0), some (.int a1)]) (st' := [.ref 0]) (pc' := 26) hk (.aload_n 0) 1 rfl rfl rfl rfl ?_
      refine ev_gf (.ref 1) 29 hk rfl rfl lk_dh rfl rfl ?_
      refine ev_ls (L' := [some (.ref 0), some (.int a1)]) (st' := [.int a1, .ref 1]) (pc' := 30) hk (.iload_n 1) 1 rfl rfl rfl rfl ?_
      obtain ⟨I2, hI2, hx⟩ := bnd_some hx
      have hI2 := Option.some.inj hI2
      refine ev_pf 33 hk rfl rfl lk_input rfl rfl rfl (sf_3_1 hI2) rfl ?_
      refine ev_ls (L' := [some (.ref 0), some (.int a1)]) (st' := [.int a1]) (pc' := 34) hk (.iload_n 1) 1 rfl rfl rfl rfl ?_
      cases hx
      obtain rfl := hM
      exact ev_retI hk rfl rfl
    · exact rX_truncate_j15 hx hM (some (.ref 0)) rfl (some (.int a1)) rfl
set_option maxRecDepth 2000 in
theorem rw_truncate {S : Nat} {xs : Nat → Int32} {I : zI} {C : zC} {Y : Nat → Int32} {Γ : Nat → zG} {D : zD} {O : Nat → Int32} {M : zM} {ou : Nat → Int64} {od : Nat → UInt64} {j : Nat} {a1 : Int32} {X : Int32 × zI × (Nat → Int64) × Nat}   (hx : fw_truncate I ou j a1 = some X) : Ev S xs 408 0 [some (.ref 0), some (.int a1), some (.ref 261), none] [] (zH I C Y Γ D O M ou od j) (((.inl (some (.int X.1))), (zH X.2.1 C Y Γ D O M X.2.2.1 od X.2.2.2)) : (Option Value ⊕ String) × px_H) := by
  generalize hM : (((.inl (some (.int X.1))), (zH X.2.1 C Y Γ D O M X.2.2.1 od X.2.2.2)) : (Option Value ⊕ String) × px_H) = y
  replace hM := hM.symm
  have hk : pt_mt[408]? = some pt_r408 := rfl
  unfold fw_truncate at hx
  refine ev_ls (L' := [some (.ref 0), some (.int a1), some (.ref 261), none]) (st' := [.ref 261]) (pc' := 1) hk (.aload_n 2) 1 rfl rfl rfl rfl ?_
  refine ev_op (st' := [.int 0, .ref 261]) (pc' := 2) hk (.iconst 0) 1 rfl rfl rfl ?_
  refine ev_ls (L' := [some (.ref 0), some (.int a1), some (.ref 261), none]) (st' := [.ref 0, .int 0, .ref 261]) (pc' := 3) hk (.aload_n 0) 1 rfl rfl rfl rfl ?_
  refine ev_ls (L' := [some (.ref 0), some (.int a1), some (.ref 261), none]) (st' := [.int a1, .ref 0, .int 0, .ref 261]) (pc' := 4) hk (.iload_n 1) 1 rfl rfl rfl rfl ?_
  obtain ⟨r7, I2, hc3, hx⟩ := bnd2_some hx
  rcases r7 with v5 | E4
  · simp only [Sum.elim_inl] at hx
    refine ev_cv 363 1 [.int v5, .int 0, .ref 261] 7 hk rfl rfl rfl rfl lk_dh rfl rfl rfl (rX_truncate hc3) rfl rfl rfl rfl ?_
    refine ev_op (st' := [.long (Int32.toInt64 v5), .int 0, .ref 261]) (pc' := 8) hk (.i2l) 1 rfl rfl rfl ?_
    obtain ⟨ou6, hou6, hx⟩ := bnd_some hx
    have hou6 := Option.some.inj hou6
    refine ev_las (A := (vp_updL ou 0 (Int32.toInt64 v5))) rfl 9 hk rfl lk_ou (sa_ou hou6) rfl ?_
    refine ev_jp (pc' := 15) (st' := []) hk (.goto 6) 3 rfl rfl rfl rfl rfl ?_
    refine ev_op (st' := [.int 0]) (pc' := 16) hk (.iconst 0) 1 rfl rfl rfl ?_
    cases hx
    obtain rfl := hM
    exact ev_retI hk rfl rfl
  · simp only [Sum.elim_inr] at hx
    rcases ite_or hx with ⟨hE, hx⟩ | ⟨hE, hx⟩
    · subst hE
      refine ev_cvC 363 1 13 hk rfl rfl rfl rfl lk_dh rfl rfl rfl (t := 12) (by decide +kernel) (L' := [some (.ref 0), some (.int a1), some (.ref 261), none]) rfl (rX_truncate hc3) rfl rfl ?_
      refine ev_op (st' := [.int 1]) (pc' := 14) hk (.iconst 1) 1 rfl rfl rfl ?_
      cases hx
      obtain rfl := hM
      exact ev_retI hk rfl rfl
    cases hx
set_option maxRecDepth 2000 in
theorem rM_truncate {S : Nat} {xs : Nat → Int32} {I : zI} {C : zC} {Y : Nat → Int32} {Γ : Nat → zG} {D : zD} {O : Nat → Int32} {M : zM} {ou : Nat → Int64} {od : Nat → UInt64} {j : Nat} {a1 : Int32} {X : Int32 × zM}   (hx : fM_truncate M a1 = some X) : Ev S xs 188 0 [some (.ref 247), some (.int a1)] [] (zH I C Y Γ D O M ou od j) (((.inl (some (.int X.1))), (zH I C Y Γ D O X.2 ou od j)) : (Option Value ⊕ String) × px_H) := by
  generalize hM : (((.inl (some (.int X.1))), (zH I C Y Γ D O X.2 ou od j)) : (Option Value ⊕ String) × px_H) = y
  replace hM := hM.symm
  have hk : pt_mt[188]? = some pt_r188 := rfl
  unfold fM_truncate at hx
  refine ev_ls (L' := [some (.ref 247), some (.int a1)]) (st' := [.ref 247]) (pc' := 1) hk (.aload_n 0) 1 rfl rfl rfl rfl ?_
  refine ev_ls (L' := [some (.ref 247), some (.int a1)]) (st' := [.int a1, .ref 247]) (pc' := 2) hk (.iload_n 1) 1 rfl rfl rfl rfl ?_
  refine ev_op (st' := [.long (Int32.toInt64 a1), .ref 247]) (pc' := 3) hk (.i2l) 1 rfl rfl rfl ?_
  refine ev_op (st' := [.long 0, .long (Int32.toInt64 a1), .ref 247]) (pc' := 4) hk (.lconst 0) 1 rfl rfl rfl ?_
  refine ev_ls (L' := [some (.ref 247), some (.int a1)]) (st' := [.ref 247, .long 0, .long (Int32.toInt64 a1), .ref 247]) (pc' := 5) hk (.aload_n 0) 1 rfl rfl rfl rfl ?_
  refine ev_gf (.int (mF M 2)) 8 hk rfl rfl lk_model rfl rfl ?_
  refine ev_op (st' := [.long (Int32.toInt64 (mF M 2)), .long 0, .long (Int32.toInt64 a1), .ref 247]) (pc' := 9) hk (.i2l) 1 rfl rfl rfl ?_
  refine ev_cs 86 3 [.int (b2i (fM_isIn (Int32.toInt64 a1) 0 (Int32.toInt64 (mF M 2)))), .ref 247] 12 hk rfl rfl (by decide) rfl rfl rfl (rM_isIn rfl) rfl rfl rfl rfl ?_
  obtain ⟨v3, M2, hc4, hx⟩ := bnd2_some hx
  refine ev_cv 59 1 [.int (b2i v3)] 15 hk rfl rfl rfl rfl lk_model rfl rfl rfl (rM_goes hc4) rfl rfl rfl rfl ?_
  refine ev_d1 20 18 hk rfl rfl rfl rfl (px_bne hx (fun hc hx => ?_) (fun hc hx => ?_))
  · refine ev_ls (L' := [some (.ref 247), some (.int a1)]) (st' := [.ref 247]) (pc' := 21) hk (.aload_n 0) 1 rfl rfl rfl rfl ?_
    refine ev_ls (L' := [some (.ref 247), some (.int a1)]) (st' := [.int a1, .ref 247]) (pc' := 22) hk (.iload_n 1) 1 rfl rfl rfl rfl ?_
    obtain ⟨M5, hM5, hx⟩ := bnd_some hx
    have hM5 := Option.some.inj hM5
    refine ev_pf 25 hk rfl rfl lk_model rfl rfl rfl (sf_8_2 hM5) rfl ?_
    refine ev_ls (L' := [some (.ref 247), some (.int a1)]) (st' := [.int a1]) (pc' := 26) hk (.iload_n 1) 1 rfl rfl rfl rfl ?_
    cases hx
    obtain rfl := hM
    exact ev_retI hk rfl rfl
  · refine ev_op (st' := [.int 0]) (pc' := 19) hk (.iconst 0) 1 rfl rfl rfl ?_
    cases hx
    obtain rfl := hM
    exact ev_retI hk rfl rfl

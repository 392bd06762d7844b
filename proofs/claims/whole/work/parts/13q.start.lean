/-! THE LAW'S BEGINNING: both objects and both arrays stand -/
section PXS
variable {S : Nat} {xs : Nat → Int32} {I : zI} {C : zC} {Y : Nat → Int32} {Γ : Nat → zG} {D : zD} {O : Nat → Int32} {M M1 M2 M3 : zM} {ou : Nat → Int64} {od : Nat → UInt64} {j g s k pc : Nat} {X1 X2 X3 : zG} {L : px_L} {st : List Value} {y : (Option Value ⊕ String) × px_H} {r : px_R} {cs : List va_E}
def zI0 : zI := (fun k => if k = 9 then -1 else 0, 0, fun _ => 0)
def zC0 : zC := (fun _ => 0, fun _ _ => 0)
def zG0 : zG := (fun _ _ => 0, fun _ => 0, fun _ _ => 0, fun _ => false)
def zM0 : zM := (fun k => if k = 9 then -1 else if k = 11 then -1 else 0, 0, fun _ _ => 0, false)
set_option maxRecDepth 100000 in
theorem dh_eq (hg : g = 0) : ((.inr (7, [.ref (g + 1), .ref (g + 3), .ref (g + 10), .ref (g + 36), .ref (g + 62), .int 0, .ref (g + 88), .ref (g + 246), .int 0]) : va_E) :: (incl (g + 1) ++ (scl (g + 3) ++ (gcl (g + 10) ++ (gcl (g + 36) ++ (gcl (g + 62) ++ (hcl (g + 88) ++ [.inl (1, 37, .inl (fun _ => 0))]))))))) = (List.range 247).map (px_cell zI0 zC0 (fun _ => 0) (fun _ => zG0) (false, 0) (fun _ => 0) M ou od) := by
  subst hg
  rfl
theorem gup_0 : gup (fun _ => zG0) g zG0 = fun _ => zG0 := gup_self (Γ := fun _ => zG0)
theorem za_lk_dh : (za_H I C Y Γ D O M ou od j).1[0]? = some (.inr (7, [.ref 1, .ref 3, .ref 10, .ref 36, .ref 62, .int (b2i D.1), .ref 88, .ref 246, .int D.2])) := za_zH_at (a := 0) (by decide)
set_option maxRecDepth 8000 in
theorem rc_dhs (h1 : fG_clear zG0 = some X1) (h2 : fC_addGore X1 180 = some X2) (h3 : fC_addGore X2 180 = some X3) : Ev S xs 320 0 [some (.ref 0)] [] ([] ++ [.inr (7, [.null, .null, .null, .null, .null, .int 0, .null, .null, .int 0])], 0, s, true) (.inl none, za_H zI0 zC0 (fun _ => 0) (gup (fun _ => zG0) 10 X3) (false, 0) (fun _ => 0) M ou od (s + 2512)) := by
  have hk : pt_mt[320]? = some pt_r320 := rfl
  refine rc_dh (cs := []) (g := 0) rfl ?_
  rw [dh_eq (M := M) (ou := ou) (od := od) rfl, List.nil_append]
  have q : Ev S xs 320 92 [some (.ref 0)] [.ref 10] (za_H zI0 zC0 (fun _ => 0) (gup (fun _ => zG0) 10 zG0) (false, 0) (fun _ => 0) M ou od (s + 2512)) (.inl none, za_H zI0 zC0 (fun _ => 0) (gup (fun _ => zG0) 10 X3) (false, 0) (fun _ => 0) M ou od (s + 2512)) := by
    refine ev_cv 216 0 [] 95 hk rfl rfl rfl rfl (za_lk_globe isG_10 gup_same) rfl rfl rfl (za_rG_clear isG_10 h1) rfl rfl rfl rfl ?_
    refine ev_ls (L' := [some (.ref 0)]) (st' := [.ref 0]) (pc' := 96) hk (.aload_n 0) 1 rfl rfl rfl rfl ?_
    refine ev_gf (.ref 10) 99 hk rfl rfl za_lk_dh rfl rfl ?_
    refine ev_gf (.ref (10 + 1)) 102 hk rfl rfl (za_lk_globe isG_10 gup_same) rfl rfl ?_
    refine ev_op (st' := [.int 180, .ref (10 + 1)]) (pc' := 105) hk (.sipush 180) 3 rfl rfl rfl ?_
    refine ev_cv 5 1 [] 108 hk rfl rfl rfl rfl (za_lk_cloth isG_10 gup_same) rfl rfl rfl (za_rC_addGore isG_10 h2) rfl rfl rfl rfl ?_
    refine ev_ls (L' := [some (.ref 0)]) (st' := [.ref 0]) (pc' := 109) hk (.aload_n 0) 1 rfl rfl rfl rfl ?_
    refine ev_gf (.ref 10) 112 hk rfl rfl za_lk_dh rfl rfl ?_
    refine ev_gf (.ref (10 + 1)) 115 hk rfl rfl (za_lk_globe isG_10 gup_same) rfl rfl ?_
    refine ev_op (st' := [.int 180, .ref (10 + 1)]) (pc' := 118) hk (.sipush 180) 3 rfl rfl rfl ?_
    refine ev_cv 5 1 [] 121 hk rfl rfl rfl rfl (za_lk_cloth isG_10 gup_same) rfl rfl rfl (za_rC_addGore isG_10 h3) rfl rfl rfl rfl ?_
    exact ev_retv hk rfl rfl
  rw [gup_0] at q
  exact q
theorem md_eq (hg : g = 247) : [.inr (8, [.int 0, .ref (g + 1), .int 0, .int 0, .int 0, .int 0, .int 0, .int 0, .int 0, .int (-1), .int 0, .int (-1), .long 0, .ref (g + 2), .ref (g + 3), .ref (g + 4), .ref (g + 5), .ref (g + 6), .int 0, .int 0, .ref (g + 7), .ref (g + 8), .ref (g + 9), .ref (g + 10), .ref (g + 11), .ref (g + 12), .int 0, .int 0, .int 0, .int 0, .ref (g + 13), .int 0]), .inl (0, 600, .inl (fun _ => 0)), .inl (0, 160, .inl (fun _ => 0)), .inl (0, 160, .inl (fun _ => 0)), .inl (0, 160, .inl (fun _ => 0)), .inl (0, 160, .inl (fun _ => 0)), .inl (0, 960, .inl (fun _ => 0)), .inl (0, 60, .inl (fun _ => 0)), .inl (0, 60, .inl (fun _ => 0)), .inl (0, 60, .inl (fun _ => 0)), .inl (0, 60, .inl (fun _ => 0)), .inl (0, 2, .inl (fun _ => 0)), .inl (0, 2, .inl (fun _ => 0)), .inl (0, 37, .inl (fun _ => 0))] = [247, 248, 249, 250, 251, 252, 253, 254, 255, 256, 257, 258, 259, 260].map (px_cell I C Y Γ D O zM0 ou od) := by
  subst hg
  rfl
theorem rg_261 : List.range 261 = List.range 247 ++ [247, 248, 249, 250, 251, 252, 253, 254, 255, 256, 257, 258, 259, 260] := by decide +kernel
theorem rg_263 : List.range 263 = List.range 261 ++ [261, 262] := by decide +kernel
theorem rg_len {f : Nat → va_E} {n : Nat} : ((List.range n).map f).length = n := by rw [List.length_map, List.length_range]
set_option maxRecDepth 8000 in
theorem rc_mds (h1 : fM_begins zM0 = some M1) (h2 : fM_addsGore M1 180 = some M2) (h3 : fM_addsGore M2 180 = some M3) : Ev S xs 78 0 [some (.ref 247)] [] ((List.range 247).map (px_cell I C Y Γ D O zM0 ou od) ++ [.inr (8, [.int 0, .null, .int 0, .int 0, .int 0, .int 0, .int 0, .int 0, .int 0, .int 0, .int 0, .int 0, .long 0, .null, .null, .null, .null, .null, .int 0, .int 0, .null, .null, .null, .null, .null, .null, .int 0, .int 0, .int 0, .int 0, .null, .int 0])], 0, s, true) (.inl none, zb_H I C Y Γ D O M3 ou od (s + 2481)) := by
  have hk : pt_mt[78]? = some pt_r78 := rfl
  refine rc_md (cs := (List.range 247).map (px_cell I C Y Γ D O zM0 ou od)) (g := 247) rg_len ?_
  rw [md_eq (I := I) (C := C) (Y := Y) (Γ := Γ) (D := D) (O := O) (ou := ou) (od := od) rfl, ← List.map_append, ← rg_261]
  have q : Ev S xs 78 123 [some (.ref 247)] [.ref 247] (zb_H I C Y Γ D O zM0 ou od (s + 2481)) (.inl none, zb_H I C Y Γ D O M3 ou od (s + 2481)) := by
    refine ev_cv 28 0 [] 126 hk rfl rfl rfl rfl zb_lk_model rfl rfl rfl (zb_rM_begins h1) rfl rfl rfl rfl ?_
    refine ev_ls (L' := [some (.ref 247)]) (st' := [.ref 247]) (pc' := 127) hk (.aload_n 0) 1 rfl rfl rfl rfl ?_
    refine ev_op (st' := [.int 180, .ref 247]) (pc' := 130) hk (.sipush 180) 3 rfl rfl rfl ?_
    refine ev_cv 20 1 [] 133 hk rfl rfl rfl rfl zb_lk_model rfl rfl rfl (zb_rM_addsGore h2) rfl rfl rfl rfl ?_
    refine ev_ls (L' := [some (.ref 247)]) (st' := [.ref 247]) (pc' := 134) hk (.aload_n 0) 1 rfl rfl rfl rfl ?_
    refine ev_op (st' := [.int 180, .ref 247]) (pc' := 137) hk (.sipush 180) 3 rfl rfl rfl ?_
    refine ev_cv 20 1 [] 140 hk rfl rfl rfl rfl zb_lk_model rfl rfl rfl (zb_rM_addsGore h3) rfl rfl rfl rfl ?_
    exact ev_retv hk rfl rfl
  exact q
theorem zb_eq : (List.range 261).map (px_cell I C Y Γ D O M ou od) = (List.range 247).map (px_cell I C Y Γ D O M ou od) ++ [247, 248, 249, 250, 251, 252, 253, 254, 255, 256, 257, 258, 259, 260].map (px_cell I C Y Γ D O M ou od) := by rw [rg_261, List.map_append]
theorem ev_nw0 {x ci s1 : Nat} {w : Nat × Nat × Nat} (hg : cs.length = g) (pc' : Nat) (hk : pt_mt[k]? = some r) (ha : px_at (px_co r) pc = some (.new x, 3)) (hl : (pt_N (px_cl r)).lookup x = some (ci, w)) (ht : px_th (px_cl r) (px_co r) pc st = none) (hs : s + px_N ci = s1) (hp : pc + 3 = pc') (e : Ev S xs k pc' L (.ref g :: st) (cs ++ [.inr (ci, px_new ci)], 0, s1, true) y) : Ev S xs k pc L st (cs, 0, s, true) y := by
  have q := ev_nw (S := S) (xs := xs) (L := L) (l := []) (l1 := [.inr (ci, px_new ci)]) (y := y) hg 0 rfl pc' hk ha hl ht rfl hs hp e
  rw [List.append_nil] at q
  exact q
theorem ev_nL0 {s1 : Nat} (hg : cs.length = g) (x : Int32) (a : Nat) (hx : ¬ x < 0 ∧ x.toNatClampNeg = a ∧ a ≤ 100000) (pc' : Nat) (hk : pt_mt[k]? = some r) (ha : px_at (px_co r) pc = some (.newarray .long, 2)) (hs : s + a = s1) (hp : pc + 2 = pc') (e : Ev S xs k pc' L (.ref g :: st) (cs ++ [.inl (5, a, .inr (.inl (fun _ => 0)))], 0, s1, true) y) : Ev S xs k pc L (.int x :: st) (cs, 0, s, true) y := by
  have q := ev_nL (S := S) (xs := xs) (L := L) (l := []) (n := 0) (l1 := [.inl (5, a, .inr (.inl (fun _ => 0)))]) (y := y) hg x a hx rfl pc' hk ha rfl hs hp e
  rw [List.append_nil] at q
  exact q
set_option maxRecDepth 8000 in
/-- from the law's entry to its loop -/
theorem rc_law (h1 : fG_clear zG0 = some X1) (h2 : fC_addGore X1 180 = some X2) (h3 : fC_addGore X2 180 = some X3) (k1 : fM_begins zM0 = some M1) (k2 : fM_addsGore M1 180 = some M2) (k3 : fM_addsGore M2 180 = some M3)
    (e : Ev S xs 412 28 [some (.retAddr 0), some (.ref 0), some (.ref 247), some (.ref 261), some (.ref 262), some (.int 0), none, none, none, none] [] (zH zI0 zC0 (fun _ => 0) (gup (fun _ => zG0) 10 X3) (false, 0) (fun _ => 0) M3 (fun _ => 0) (fun _ => 0) 0) y) :
    Ev S xs 412 0 [some (.retAddr 0), none, none, none, none, none, none, none, none, none] [] ([], 0, 0, true) y := by
  have hk : pt_mt[412]? = some pt_r412 := rfl
  refine ev_nw0 (cs := []) (g := 0) (s1 := 9) rfl 3 hk rfl rfl rfl rfl rfl ?_
  refine ev_op (st' := [.ref 0, .ref 0]) (pc' := 4) hk (.dup) 1 rfl rfl rfl ?_
  refine ev_ci (h1 := za_H zI0 zC0 (fun _ => 0) (gup (fun _ => zG0) 10 X3) (false, 0) (fun _ => 0) zM0 (fun _ => 0) (fun _ => 0) (9 + 2512)) 7 hk rfl rfl (by decide) rfl rfl (rc_dhs h1 h2 h3) rfl rfl rfl rfl rfl ?_
  refine ev_ls (L' := [some (.retAddr 0), some (.ref 0), none, none, none, none, none, none, none, none]) (st' := []) (pc' := 8) hk (.astore_n 1) 1 rfl rfl rfl rfl ?_
  refine ev_nw0 (cs := (List.range 247).map (px_cell zI0 zC0 (fun _ => 0) (gup (fun _ => zG0) 10 X3) (false, 0) (fun _ => 0) zM0 (fun _ => 0) (fun _ => 0))) (g := 247) (s := 9 + 2512) (s1 := 2553) rg_len 11 hk rfl rfl rfl rfl rfl ?_
  refine ev_op (st' := [.ref 247, .ref 247]) (pc' := 12) hk (.dup) 1 rfl rfl rfl ?_
  refine ev_ci (h1 := zb_H zI0 zC0 (fun _ => 0) (gup (fun _ => zG0) 10 X3) (false, 0) (fun _ => 0) M3 (fun _ => 0) (fun _ => 0) (2553 + 2481)) 15 hk rfl rfl (by decide) rfl rfl (rc_mds k1 k2 k3) rfl rfl rfl rfl rfl ?_
  refine ev_ls (L' := [some (.retAddr 0), some (.ref 0), some (.ref 247), none, none, none, none, none, none, none]) (st' := []) (pc' := 16) hk (.astore_n 2) 1 rfl rfl rfl rfl ?_
  refine ev_op (st' := [.int 1]) (pc' := 17) hk (.iconst 1) 1 rfl rfl rfl ?_
  refine ev_nL0 (cs := (List.range 261).map (px_cell zI0 zC0 (fun _ => 0) (gup (fun _ => zG0) 10 X3) (false, 0) (fun _ => 0) M3 (fun _ => 0) (fun _ => 0))) (g := 261) (s := 2553 + 2481) (s1 := 5035) rg_len 1 1 (by decide) 19 hk rfl rfl rfl ?_
  refine ev_ls (L' := [some (.retAddr 0), some (.ref 0), some (.ref 247), some (.ref 261), none, none, none, none, none, none]) (st' := []) (pc' := 20) hk (.astore_n 3) 1 rfl rfl rfl rfl ?_
  refine ev_op (st' := [.int 1]) (pc' := 21) hk (.iconst 1) 1 rfl rfl rfl ?_
  refine ev_nD (g := 261) (n := 1) (l1 := [.inl (5, 1, .inr (.inl (fun _ => 0))), .inl (6, 1, .inr (.inr (.inr (.inl (fun _ => 0)))))]) (s1 := 5036) rg_len 1 1 (by decide) rfl 23 hk rfl rfl rfl rfl ?_
  refine ev_ls (L' := [some (.retAddr 0), some (.ref 0), some (.ref 247), some (.ref 261), some (.ref 262), none, none, none, none, none]) (st' := []) (pc' := 25) hk (.astore 4) 2 rfl rfl rfl rfl ?_
  refine ev_op (st' := [.int 0]) (pc' := 26) hk (.iconst 0) 1 rfl rfl rfl ?_
  refine ev_ls (L' := [some (.retAddr 0), some (.ref 0), some (.ref 247), some (.ref 261), some (.ref 262), some (.int 0), none, none, none, none]) (st' := []) (pc' := 28) hk (.istore 5) 2 rfl rfl rfl rfl ?_
  have e9 : (List.range 263).map (px_cell zI0 zC0 (fun _ => 0) (gup (fun _ => zG0) 10 X3) (false, 0) (fun _ => 0) M3 (fun _ => 0) (fun _ => 0)) = (List.range 261).map (px_cell zI0 zC0 (fun _ => 0) (gup (fun _ => zG0) 10 X3) (false, 0) (fun _ => 0) M3 (fun _ => 0) (fun _ => 0)) ++ [.inl (5, 1, .inr (.inl (fun _ => 0))), .inl (6, 1, .inr (.inr (.inr (.inl (fun _ => 0)))))] := by rw [rg_263, List.map_append]; rfl
  unfold zH at e
  rw [e9] at e
  exact e
/-- both sides at the loop's beginning -/
theorem hS_0st : ∃ X1 X2 X3 M1 M2 M3, fG_clear zG0 = some X1 ∧ fC_addGore X1 180 = some X2 ∧ fC_addGore X2 180 = some X3 ∧ fM_begins zM0 = some M1 ∧ fM_addsGore M1 180 = some M2 ∧ fM_addsGore M2 180 = some M3 ∧ hS 0 zI0 (fun _ => 0) (gup (fun _ => zG0) 10 X3) (false, 0) (fun _ => 0) M3 := by
  obtain ⟨X1, a1, a2⟩ := g_clear (G := zG0)
  obtain ⟨f, b1, b2⟩ := m_begins (M := zM0)
  have b3 : hfr zM0 (wmA zM0 249 f) := ⟨fun _ _ => rfl, rfl, rfl, fun a ha => mA_ne ha⟩
  obtain ⟨X2, c1, c2, c3⟩ := g_addGore (g := 0) (v := 180) a2 (hV_bS (B := 0) (by omega)) (bS_0 (by omega) (by omega)) (by omega) (bS_0 (by omega) (by omega)) (bS_0 (by omega) (by omega)) (by omega) (by omega) (by rw [bg_0]; omega)
  obtain ⟨M2, d1, d2, d3⟩ := m_addGore (M := wmA zM0 249 f) (g := 0) (v := 180) (by rw [b2]; exact bS_0 (by omega) (by omega)) (by omega) (by omega)
  rw [b2] at d2
  have w : ∀ w v : Int, -2147483648 ≤ v → v < 2147483648 → hw v = v := fun _ v h1 h2 => hw_id h1 h2
  have g0 : gS bS 0 180 0 = 1 := by unfold gS; rw [hu_same, hw_id (by omega) (by omega)]; rfl
  have g1 : gS bS 0 180 1 = 0 := by unfold gS; rw [hu_ne (by omega), hu_ne (by omega), hu_ne (by omega)]; exact bS_0 (by omega) (by omega)
  have g2 : gS bS 0 180 2 = 0 := by unfold gS; rw [hu_ne (by omega), hu_ne (by omega), hu_ne (by omega)]; exact bS_0 (by omega) (by omega)
  have g14 : gS bS 0 180 (14 + 0) = 180 := by unfold gS; rw [hu_ne (by omega), hu_ne (by omega), hu_same, hw_id (by omega) (by omega)]
  obtain ⟨X3, e1, e2, e3⟩ := g_addGore (g := 1) (v := 180) c2 c3 g0 (by omega) g1 g2 (by omega) (by omega) (by rw [show (1 : Int) = 0 + 1 by omega, bg_s (by omega), bg_0, g14]; omega)
  obtain ⟨M3, f1, f2, f3⟩ := m_addGore (M := M2) (g := 1) (v := 180) (by rw [d2]; exact g0) (by omega) (by omega)
  rw [d2] at f2
  have h0 : gS (gS bS 0 180) 1 180 0 = 2 := by unfold gS; rw [hu_same, hw_id (by omega) (by omega)]; rfl
  have fr : hfr zM0 M3 := hfr_tr (hfr_tr b3 d3) f3
  refine ⟨X1, X2, X3, _, M2, M3, a1, c1, e1, b1, d1, f1, ⟨by rw [gup_same, f2]; exact e2, by rw [f2]; exact e3, by rw [f2, h0]; omega⟩, ⟨0, 0, by omega, by omega, by omega, by omega, rfl, rfl, by rw [fr.1 18 (by decide)]; rfl, fun i i1 i2 => by omega⟩, ⟨by rw [fr.2.2.1]; rfl, fun z => ?_⟩, ⟨⟨0, by omega, by omega, rfl, by rw [fr.1 2 (by decide)]; rfl, fun k k1 k2 => by omega⟩, by rw [fr.1 10 (by decide)]; rfl, by rw [fr.1 11 (by decide)]; rfl⟩, ⟨0, by omega, by omega, rfl, by rw [fr.1 31 (by decide)]; rfl, fun k k1 k2 => by omega⟩⟩
  rw [fr.2.2.1] at z
  exact absurd z (by decide)
end PXS

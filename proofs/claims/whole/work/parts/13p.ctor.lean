/-! WHAT THE CONSTRUCTORS CALL, on a heap that is not whole yet -/
section PXQ
variable {S : Nat} {xs : Nat → Int32} {I I1 : zI} {C C1 : zC} {Y Y1 : Nat → Int32} {Γ Γ1 : Nat → zG} {D D1 : zD} {O O1 : Nat → Int32} {M M1 : zM} {ou ou1 : Nat → Int64} {od od1 : Nat → UInt64} {j g i : Nat} {G G1 : zG}
def za_H (I : zI) (C : zC) (Y : Nat → Int32) (Γ : Nat → zG) (D : zD) (O : Nat → Int32) (M : zM) (ou : Nat → Int64) (od : Nat → UInt64) (j : Nat) : px_H := ((List.range 247).map (px_cell I C Y Γ D O M ou od), 0, j, true)
def zb_H (I : zI) (C : zC) (Y : Nat → Int32) (Γ : Nat → zG) (D : zD) (O : Nat → Int32) (M : zM) (ou : Nat → Int64) (od : Nat → UInt64) (j : Nat) : px_H := ((List.range 261).map (px_cell I C Y Γ D O M ou od), 0, j, true)
theorem za_g {r : Nat} (hg : isG g) (hr : r < 26) : g + r < 247 ∧ px_cell I C Y Γ D O M ou od (g + r) = px_cG Γ g r := ⟨by unfold isG at hg; omega, (cell_g hg hr).2⟩
theorem za_zH_at {a : Nat} (h : a < 247) : (za_H I C Y Γ D O M ou od j).1[a]? = some (px_cell I C Y Γ D O M ou od a) := by
  simp only [za_H, List.getElem?_map, List.getElem?_range h, Option.map_some]
theorem za_zH_g {r : Nat} (hg : isG g) (hr : r < 26) (hG : Γ g = G) : (za_H I C Y Γ D O M ou od j).1[g + r]? = some (px_cg g r (gF G r) (gN G r) (gA G r) (gB G r)) := by
  obtain ⟨h1, h2⟩ := za_g (I := I) (C := C) (Y := Y) (Γ := Γ) (D := D) (O := O) (M := M) (ou := ou) (od := od) hg hr
  rw [za_zH_at h1, h2]
  subst hG
  rfl
theorem za_lk_globe (hg : isG g) (hG : Γ g = G) : (za_H I C Y Γ D O M ou od j).1[g]? = some (.inr (1, [.ref (g + 1), .ref (g + 5), .int (gF G 0 2), .int (gF G 0 3), .int (gF G 0 4), .ref (g + 6), .int (gF G 0 6), .ref (g + 17)])) := za_zH_g (r := 0) hg (by decide) hG
theorem za_lk_cloth (hg : isG g) (hG : Γ g = G) : (za_H I C Y Γ D O M ou od j).1[g + 1]? = some (.inr (0, [.int (gF G 1 0), .ref (g + 2), .ref (g + 3), .ref (g + 4)])) := za_zH_g (r := 1) hg (by decide) hG
theorem za_lk_a2 (hg : isG g) (hG : Γ g = G) : (za_H I C Y Γ D O M ou od j).1[g + 2]? = some (.inl (0, 12, .inl (gA G 2))) := za_zH_g (r := 2) hg (by decide) hG
theorem za_lk_a3 (hg : isG g) (hG : Γ g = G) : (za_H I C Y Γ D O M ou od j).1[g + 3]? = some (.inl (0, 12, .inl (gA G 3))) := za_zH_g (r := 3) hg (by decide) hG
theorem za_lk_a4 (hg : isG g) (hG : Γ g = G) : (za_H I C Y Γ D O M ou od j).1[g + 4]? = some (.inl (0, 12, .inl (gA G 4))) := za_zH_g (r := 4) hg (by decide) hG
theorem za_lk_a5 (hg : isG g) (hG : Γ g = G) : (za_H I C Y Γ D O M ou od j).1[g + 5]? = some (.inl (0, 9, .inl (gA G 5))) := za_zH_g (r := 5) hg (by decide) hG
theorem za_zH_set {a : Nat} {e9 : va_E} (ha : a < 247) (h1 : px_cell I1 C1 Y1 Γ1 D1 O1 M1 ou1 od1 a = e9) (h2 : ∀ b, b < 247 → b ≠ a → px_cell I1 C1 Y1 Γ1 D1 O1 M1 ou1 od1 b = px_cell I C Y Γ D O M ou od b) : ((za_H I C Y Γ D O M ou od j).1.set a e9, (za_H I C Y Γ D O M ou od j).2) = za_H I1 C1 Y1 Γ1 D1 O1 M1 ou1 od1 j := by
  unfold za_H
  refine Prod.ext ?_ rfl
  dsimp only
  apply List.ext_getElem?
  intro b
  rw [List.getElem?_set]
  by_cases hb : a = b
  · subst hb
    rw [if_pos rfl, List.length_map, List.length_range, if_pos ha, List.getElem?_map, List.getElem?_range ha, Option.map_some, h1]
  · rw [if_neg hb, List.getElem?_map, List.getElem?_map]
    by_cases hb2 : b < 247
    · rw [List.getElem?_range hb2, Option.map_some, Option.map_some, h2 b hb2 (fun z => hb z.symm)]
    · rw [List.getElem?_eq_none (by rw [List.length_range]; omega), Option.map_none, Option.map_none]
theorem za_zH_setG {r : Nat} {e9 : va_E} (hg : isG g) (hr : r < 26) (h1 : px_cg g r (gF G1 r) (gN G1 r) (gA G1 r) (gB G1 r) = e9) (h2 : ∀ r', r' ≠ r → gF G1 r' = gF (Γ g) r' ∧ gN G1 r' = gN (Γ g) r' ∧ gA G1 r' = gA (Γ g) r' ∧ gB G1 r' = gB (Γ g) r') (hΓ : gup Γ g G1 = Γ1) : ((za_H I C Y Γ D O M ou od j).1.set (g + r) e9, (za_H I C Y Γ D O M ou od j).2) = za_H I C Y Γ1 D O M ou od j := by
  subst hΓ
  obtain ⟨h3, h4⟩ := za_g (I := I) (C := C) (Y := Y) (Γ := gup Γ g G1) (D := D) (O := O) (M := M) (ou := ou) (od := od) hg hr
  refine za_zH_set h3 ?_ (fun b hb hne => ?_)
  · rw [h4]
    unfold px_cG
    rw [gup_same]
    exact h1
  · unfold px_cell
    by_cases c1 : b < 10
    · rw [if_pos c1, if_pos c1]
    rw [if_neg c1, if_neg c1]
    by_cases c2 : b < 88
    · rw [if_pos c2, if_pos c2]
      by_cases e1 : 10 + 26 * ((b - 10) / 26) = g
      · rw [e1]
        exact cG_same (h2 _ (fun z => hne (by omega)))
      · exact cG_ne e1
    rw [if_neg c2, if_neg c2]
    by_cases c3 : b < 90
    · rw [if_pos c3, if_pos c3]
    rw [if_neg c3, if_neg c3]
    by_cases c4 : b < 246
    · rw [if_pos c4, if_pos c4]
      by_cases e1 : 90 + 26 * ((b - 90) / 26) = g
      · rw [e1]
        exact cG_same (h2 _ (fun z => hne (by omega)))
      · exact cG_ne e1
    rw [if_neg c4, if_neg c4]
theorem za_sf_1_2 {v : Int32} (hg : isG g) (hG : Γ g = G) (hw : wgF G 0 2 v = G1) (hΓ : gup Γ g G1 = Γ1) : ((za_H I C Y Γ D O M ou od j).1.set g (.inr (1, ([.ref (g + 1), .ref (g + 5), .int (gF G 0 2), .int (gF G 0 3), .int (gF G 0 4), .ref (g + 6), .int (gF G 0 6), .ref (g + 17)] : List Value).set 2 (.int v))), (za_H I C Y Γ D O M ou od j).2) = za_H I C Y Γ1 D O M ou od j := by
  subst hG hw
  refine za_zH_setG (r := 0) hg (by omega) ?_ (fun r' h => wgF_ne h) hΓ
  rfl
theorem za_sf_1_3 {v : Int32} (hg : isG g) (hG : Γ g = G) (hw : wgF G 0 3 v = G1) (hΓ : gup Γ g G1 = Γ1) : ((za_H I C Y Γ D O M ou od j).1.set g (.inr (1, ([.ref (g + 1), .ref (g + 5), .int (gF G 0 2), .int (gF G 0 3), .int (gF G 0 4), .ref (g + 6), .int (gF G 0 6), .ref (g + 17)] : List Value).set 3 (.int v))), (za_H I C Y Γ D O M ou od j).2) = za_H I C Y Γ1 D O M ou od j := by
  subst hG hw
  refine za_zH_setG (r := 0) hg (by omega) ?_ (fun r' h => wgF_ne h) hΓ
  rfl
theorem za_sf_1_4 {v : Int32} (hg : isG g) (hG : Γ g = G) (hw : wgF G 0 4 v = G1) (hΓ : gup Γ g G1 = Γ1) : ((za_H I C Y Γ D O M ou od j).1.set g (.inr (1, ([.ref (g + 1), .ref (g + 5), .int (gF G 0 2), .int (gF G 0 3), .int (gF G 0 4), .ref (g + 6), .int (gF G 0 6), .ref (g + 17)] : List Value).set 4 (.int v))), (za_H I C Y Γ D O M ou od j).2) = za_H I C Y Γ1 D O M ou od j := by
  subst hG hw
  refine za_zH_setG (r := 0) hg (by omega) ?_ (fun r' h => wgF_ne h) hΓ
  rfl
theorem za_sf_1_6 {v : Int32} (hg : isG g) (hG : Γ g = G) (hw : wgF G 0 6 v = G1) (hΓ : gup Γ g G1 = Γ1) : ((za_H I C Y Γ D O M ou od j).1.set g (.inr (1, ([.ref (g + 1), .ref (g + 5), .int (gF G 0 2), .int (gF G 0 3), .int (gF G 0 4), .ref (g + 6), .int (gF G 0 6), .ref (g + 17)] : List Value).set 6 (.int v))), (za_H I C Y Γ D O M ou od j).2) = za_H I C Y Γ1 D O M ou od j := by
  subst hG hw
  refine za_zH_setG (r := 0) hg (by omega) ?_ (fun r' h => wgF_ne h) hΓ
  rfl
theorem za_sf_0_0 {v : Int32} (hg : isG g) (hG : Γ g = G) (hw : wgF G 1 0 v = G1) (hΓ : gup Γ g G1 = Γ1) : ((za_H I C Y Γ D O M ou od j).1.set (g + 1) (.inr (0, ([.int (gF G 1 0), .ref (g + 2), .ref (g + 3), .ref (g + 4)] : List Value).set 0 (.int v))), (za_H I C Y Γ D O M ou od j).2) = za_H I C Y Γ1 D O M ou od j := by
  subst hG hw
  refine za_zH_setG (r := 1) hg (by omega) ?_ (fun r' h => wgF_ne h) hΓ
  rfl
theorem za_sa_g2 {A : Nat → Int32} (hg : isG g) (hG : Γ g = G) (hw : wgA G 2 A = G1) (hΓ : gup Γ g G1 = Γ1) : ((za_H I C Y Γ D O M ou od j).1.set (g + 2) (.inl (0, 12, .inl A)), (za_H I C Y Γ D O M ou od j).2) = za_H I C Y Γ1 D O M ou od j := by
  subst hG hw
  exact za_zH_setG (r := 2) hg (by omega) rfl (fun r' h => wgA_ne h) hΓ
theorem za_sa_g3 {A : Nat → Int32} (hg : isG g) (hG : Γ g = G) (hw : wgA G 3 A = G1) (hΓ : gup Γ g G1 = Γ1) : ((za_H I C Y Γ D O M ou od j).1.set (g + 3) (.inl (0, 12, .inl A)), (za_H I C Y Γ D O M ou od j).2) = za_H I C Y Γ1 D O M ou od j := by
  subst hG hw
  exact za_zH_setG (r := 3) hg (by omega) rfl (fun r' h => wgA_ne h) hΓ
theorem za_sa_g4 {A : Nat → Int32} (hg : isG g) (hG : Γ g = G) (hw : wgA G 4 A = G1) (hΓ : gup Γ g G1 = Γ1) : ((za_H I C Y Γ D O M ou od j).1.set (g + 4) (.inl (0, 12, .inl A)), (za_H I C Y Γ D O M ou od j).2) = za_H I C Y Γ1 D O M ou od j := by
  subst hG hw
  exact za_zH_setG (r := 4) hg (by omega) rfl (fun r' h => wgA_ne h) hΓ
theorem za_sa_g5 {A : Nat → Int32} (hg : isG g) (hG : Γ g = G) (hw : wgA G 5 A = G1) (hΓ : gup Γ g G1 = Γ1) : ((za_H I C Y Γ D O M ou od j).1.set (g + 5) (.inl (0, 9, .inl A)), (za_H I C Y Γ D O M ou od j).2) = za_H I C Y Γ1 D O M ou od j := by
  subst hG hw
  exact za_zH_setG (r := 5) hg (by omega) rfl (fun r' h => wgA_ne h) hΓ
theorem zb_zH_at {a : Nat} (h : a < 261) : (zb_H I C Y Γ D O M ou od j).1[a]? = some (px_cell I C Y Γ D O M ou od a) := by
  simp only [zb_H, List.getElem?_map, List.getElem?_range h, Option.map_some]
theorem zb_lk_model : (zb_H I C Y Γ D O M ou od j).1[247]? = some (.inr (8, [.int (mF M 0), .ref 248, .int (mF M 2), .int (mF M 3), .int (mF M 4), .int (mF M 5), .int (mF M 6), .int (mF M 7), .int (mF M 8), .int (mF M 9), .int (mF M 10), .int (mF M 11), .long (mN M), .ref 249, .ref 250, .ref 251, .ref 252, .ref 253, .int (mF M 18), .int (b2i (mB M)), .ref 254, .ref 255, .ref 256, .ref 257, .ref 258, .ref 259, .int (mF M 26), .int (mF M 27), .int (mF M 28), .int (mF M 29), .ref 260, .int (mF M 31)])) := zb_zH_at (a := 247) (by decide)
theorem zb_lk_m249 : (zb_H I C Y Γ D O M ou od j).1[249]? = some (.inl (0, 160, .inl (mA M 249))) := zb_zH_at (a := 249) (by decide)
theorem zb_zH_set {a : Nat} {e9 : va_E} (ha : a < 261) (h1 : px_cell I1 C1 Y1 Γ1 D1 O1 M1 ou1 od1 a = e9) (h2 : ∀ b, b < 261 → b ≠ a → px_cell I1 C1 Y1 Γ1 D1 O1 M1 ou1 od1 b = px_cell I C Y Γ D O M ou od b) : ((zb_H I C Y Γ D O M ou od j).1.set a e9, (zb_H I C Y Γ D O M ou od j).2) = zb_H I1 C1 Y1 Γ1 D1 O1 M1 ou1 od1 j := by
  unfold zb_H
  refine Prod.ext ?_ rfl
  dsimp only
  apply List.ext_getElem?
  intro b
  rw [List.getElem?_set]
  by_cases hb : a = b
  · subst hb
    rw [if_pos rfl, List.length_map, List.length_range, if_pos ha, List.getElem?_map, List.getElem?_range ha, Option.map_some, h1]
  · rw [if_neg hb, List.getElem?_map, List.getElem?_map]
    by_cases hb2 : b < 261
    · rw [List.getElem?_range hb2, Option.map_some, Option.map_some, h2 b hb2 (fun z => hb z.symm)]
    · rw [List.getElem?_eq_none (by rw [List.length_range]; omega), Option.map_none, Option.map_none]
theorem zb_sf_8_0 {v : Int32} (hw : wmF M 0 v = M1) : ((zb_H I C Y Γ D O M ou od j).1.set 247 (.inr (8, ([.int (mF M 0), .ref 248, .int (mF M 2), .int (mF M 3), .int (mF M 4), .int (mF M 5), .int (mF M 6), .int (mF M 7), .int (mF M 8), .int (mF M 9), .int (mF M 10), .int (mF M 11), .long (mN M), .ref 249, .ref 250, .ref 251, .ref 252, .ref 253, .int (mF M 18), .int (b2i (mB M)), .ref 254, .ref 255, .ref 256, .ref 257, .ref 258, .ref 259, .int (mF M 26), .int (mF M 27), .int (mF M 28), .int (mF M 29), .ref 260, .int (mF M 31)] : List Value).set 0 (.int v))), (zb_H I C Y Γ D O M ou od j).2) = zb_H I C Y Γ D O M1 ou od j := by
  subst hw
  refine zb_zH_set (by decide) rfl (fun b hb hne => cellM (a := 247) (by decide) (Nat.lt_trans hb (by decide)) (fun h => ?_))
  unfold px_cm
  rw [if_neg hne, if_neg hne]
  rfl
theorem zb_sf_8_2 {v : Int32} (hw : wmF M 2 v = M1) : ((zb_H I C Y Γ D O M ou od j).1.set 247 (.inr (8, ([.int (mF M 0), .ref 248, .int (mF M 2), .int (mF M 3), .int (mF M 4), .int (mF M 5), .int (mF M 6), .int (mF M 7), .int (mF M 8), .int (mF M 9), .int (mF M 10), .int (mF M 11), .long (mN M), .ref 249, .ref 250, .ref 251, .ref 252, .ref 253, .int (mF M 18), .int (b2i (mB M)), .ref 254, .ref 255, .ref 256, .ref 257, .ref 258, .ref 259, .int (mF M 26), .int (mF M 27), .int (mF M 28), .int (mF M 29), .ref 260, .int (mF M 31)] : List Value).set 2 (.int v))), (zb_H I C Y Γ D O M ou od j).2) = zb_H I C Y Γ D O M1 ou od j := by
  subst hw
  refine zb_zH_set (by decide) rfl (fun b hb hne => cellM (a := 247) (by decide) (Nat.lt_trans hb (by decide)) (fun h => ?_))
  unfold px_cm
  rw [if_neg hne, if_neg hne]
  rfl
theorem zb_sf_8_3 {v : Int32} (hw : wmF M 3 v = M1) : ((zb_H I C Y Γ D O M ou od j).1.set 247 (.inr (8, ([.int (mF M 0), .ref 248, .int (mF M 2), .int (mF M 3), .int (mF M 4), .int (mF M 5), .int (mF M 6), .int (mF M 7), .int (mF M 8), .int (mF M 9), .int (mF M 10), .int (mF M 11), .long (mN M), .ref 249, .ref 250, .ref 251, .ref 252, .ref 253, .int (mF M 18), .int (b2i (mB M)), .ref 254, .ref 255, .ref 256, .ref 257, .ref 258, .ref 259, .int (mF M 26), .int (mF M 27), .int (mF M 28), .int (mF M 29), .ref 260, .int (mF M 31)] : List Value).set 3 (.int v))), (zb_H I C Y Γ D O M ou od j).2) = zb_H I C Y Γ D O M1 ou od j := by
  subst hw
  refine zb_zH_set (by decide) rfl (fun b hb hne => cellM (a := 247) (by decide) (Nat.lt_trans hb (by decide)) (fun h => ?_))
  unfold px_cm
  rw [if_neg hne, if_neg hne]
  rfl
theorem zb_sf_8_4 {v : Int32} (hw : wmF M 4 v = M1) : ((zb_H I C Y Γ D O M ou od j).1.set 247 (.inr (8, ([.int (mF M 0), .ref 248, .int (mF M 2), .int (mF M 3), .int (mF M 4), .int (mF M 5), .int (mF M 6), .int (mF M 7), .int (mF M 8), .int (mF M 9), .int (mF M 10), .int (mF M 11), .long (mN M), .ref 249, .ref 250, .ref 251, .ref 252, .ref 253, .int (mF M 18), .int (b2i (mB M)), .ref 254, .ref 255, .ref 256, .ref 257, .ref 258, .ref 259, .int (mF M 26), .int (mF M 27), .int (mF M 28), .int (mF M 29), .ref 260, .int (mF M 31)] : List Value).set 4 (.int v))), (zb_H I C Y Γ D O M ou od j).2) = zb_H I C Y Γ D O M1 ou od j := by
  subst hw
  refine zb_zH_set (by decide) rfl (fun b hb hne => cellM (a := 247) (by decide) (Nat.lt_trans hb (by decide)) (fun h => ?_))
  unfold px_cm
  rw [if_neg hne, if_neg hne]
  rfl
theorem zb_sf_8_5 {v : Int32} (hw : wmF M 5 v = M1) : ((zb_H I C Y Γ D O M ou od j).1.set 247 (.inr (8, ([.int (mF M 0), .ref 248, .int (mF M 2), .int (mF M 3), .int (mF M 4), .int (mF M 5), .int (mF M 6), .int (mF M 7), .int (mF M 8), .int (mF M 9), .int (mF M 10), .int (mF M 11), .long (mN M), .ref 249, .ref 250, .ref 251, .ref 252, .ref 253, .int (mF M 18), .int (b2i (mB M)), .ref 254, .ref 255, .ref 256, .ref 257, .ref 258, .ref 259, .int (mF M 26), .int (mF M 27), .int (mF M 28), .int (mF M 29), .ref 260, .int (mF M 31)] : List Value).set 5 (.int v))), (zb_H I C Y Γ D O M ou od j).2) = zb_H I C Y Γ D O M1 ou od j := by
  subst hw
  refine zb_zH_set (by decide) rfl (fun b hb hne => cellM (a := 247) (by decide) (Nat.lt_trans hb (by decide)) (fun h => ?_))
  unfold px_cm
  rw [if_neg hne, if_neg hne]
  rfl
theorem zb_sf_8_6 {v : Int32} (hw : wmF M 6 v = M1) : ((zb_H I C Y Γ D O M ou od j).1.set 247 (.inr (8, ([.int (mF M 0), .ref 248, .int (mF M 2), .int (mF M 3), .int (mF M 4), .int (mF M 5), .int (mF M 6), .int (mF M 7), .int (mF M 8), .int (mF M 9), .int (mF M 10), .int (mF M 11), .long (mN M), .ref 249, .ref 250, .ref 251, .ref 252, .ref 253, .int (mF M 18), .int (b2i (mB M)), .ref 254, .ref 255, .ref 256, .ref 257, .ref 258, .ref 259, .int (mF M 26), .int (mF M 27), .int (mF M 28), .int (mF M 29), .ref 260, .int (mF M 31)] : List Value).set 6 (.int v))), (zb_H I C Y Γ D O M ou od j).2) = zb_H I C Y Γ D O M1 ou od j := by
  subst hw
  refine zb_zH_set (by decide) rfl (fun b hb hne => cellM (a := 247) (by decide) (Nat.lt_trans hb (by decide)) (fun h => ?_))
  unfold px_cm
  rw [if_neg hne, if_neg hne]
  rfl
theorem zb_sf_8_7 {v : Int32} (hw : wmF M 7 v = M1) : ((zb_H I C Y Γ D O M ou od j).1.set 247 (.inr (8, ([.int (mF M 0), .ref 248, .int (mF M 2), .int (mF M 3), .int (mF M 4), .int (mF M 5), .int (mF M 6), .int (mF M 7), .int (mF M 8), .int (mF M 9), .int (mF M 10), .int (mF M 11), .long (mN M), .ref 249, .ref 250, .ref 251, .ref 252, .ref 253, .int (mF M 18), .int (b2i (mB M)), .ref 254, .ref 255, .ref 256, .ref 257, .ref 258, .ref 259, .int (mF M 26), .int (mF M 27), .int (mF M 28), .int (mF M 29), .ref 260, .int (mF M 31)] : List Value).set 7 (.int v))), (zb_H I C Y Γ D O M ou od j).2) = zb_H I C Y Γ D O M1 ou od j := by
  subst hw
  refine zb_zH_set (by decide) rfl (fun b hb hne => cellM (a := 247) (by decide) (Nat.lt_trans hb (by decide)) (fun h => ?_))
  unfold px_cm
  rw [if_neg hne, if_neg hne]
  rfl
theorem zb_sf_8_8 {v : Int32} (hw : wmF M 8 v = M1) : ((zb_H I C Y Γ D O M ou od j).1.set 247 (.inr (8, ([.int (mF M 0), .ref 248, .int (mF M 2), .int (mF M 3), .int (mF M 4), .int (mF M 5), .int (mF M 6), .int (mF M 7), .int (mF M 8), .int (mF M 9), .int (mF M 10), .int (mF M 11), .long (mN M), .ref 249, .ref 250, .ref 251, .ref 252, .ref 253, .int (mF M 18), .int (b2i (mB M)), .ref 254, .ref 255, .ref 256, .ref 257, .ref 258, .ref 259, .int (mF M 26), .int (mF M 27), .int (mF M 28), .int (mF M 29), .ref 260, .int (mF M 31)] : List Value).set 8 (.int v))), (zb_H I C Y Γ D O M ou od j).2) = zb_H I C Y Γ D O M1 ou od j := by
  subst hw
  refine zb_zH_set (by decide) rfl (fun b hb hne => cellM (a := 247) (by decide) (Nat.lt_trans hb (by decide)) (fun h => ?_))
  unfold px_cm
  rw [if_neg hne, if_neg hne]
  rfl
theorem zb_sf_8_9 {v : Int32} (hw : wmF M 9 v = M1) : ((zb_H I C Y Γ D O M ou od j).1.set 247 (.inr (8, ([.int (mF M 0), .ref 248, .int (mF M 2), .int (mF M 3), .int (mF M 4), .int (mF M 5), .int (mF M 6), .int (mF M 7), .int (mF M 8), .int (mF M 9), .int (mF M 10), .int (mF M 11), .long (mN M), .ref 249, .ref 250, .ref 251, .ref 252, .ref 253, .int (mF M 18), .int (b2i (mB M)), .ref 254, .ref 255, .ref 256, .ref 257, .ref 258, .ref 259, .int (mF M 26), .int (mF M 27), .int (mF M 28), .int (mF M 29), .ref 260, .int (mF M 31)] : List Value).set 9 (.int v))), (zb_H I C Y Γ D O M ou od j).2) = zb_H I C Y Γ D O M1 ou od j := by
  subst hw
  refine zb_zH_set (by decide) rfl (fun b hb hne => cellM (a := 247) (by decide) (Nat.lt_trans hb (by decide)) (fun h => ?_))
  unfold px_cm
  rw [if_neg hne, if_neg hne]
  rfl
theorem zb_sf_8_10 {v : Int32} (hw : wmF M 10 v = M1) : ((zb_H I C Y Γ D O M ou od j).1.set 247 (.inr (8, ([.int (mF M 0), .ref 248, .int (mF M 2), .int (mF M 3), .int (mF M 4), .int (mF M 5), .int (mF M 6), .int (mF M 7), .int (mF M 8), .int (mF M 9), .int (mF M 10), .int (mF M 11), .long (mN M), .ref 249, .ref 250, .ref 251, .ref 252, .ref 253, .int (mF M 18), .int (b2i (mB M)), .ref 254, .ref 255, .ref 256, .ref 257, .ref 258, .ref 259, .int (mF M 26), .int (mF M 27), .int (mF M 28), .int (mF M 29), .ref 260, .int (mF M 31)] : List Value).set 10 (.int v))), (zb_H I C Y Γ D O M ou od j).2) = zb_H I C Y Γ D O M1 ou od j := by
  subst hw
  refine zb_zH_set (by decide) rfl (fun b hb hne => cellM (a := 247) (by decide) (Nat.lt_trans hb (by decide)) (fun h => ?_))
  unfold px_cm
  rw [if_neg hne, if_neg hne]
  rfl
theorem zb_sf_8_11 {v : Int32} (hw : wmF M 11 v = M1) : ((zb_H I C Y Γ D O M ou od j).1.set 247 (.inr (8, ([.int (mF M 0), .ref 248, .int (mF M 2), .int (mF M 3), .int (mF M 4), .int (mF M 5), .int (mF M 6), .int (mF M 7), .int (mF M 8), .int (mF M 9), .int (mF M 10), .int (mF M 11), .long (mN M), .ref 249, .ref 250, .ref 251, .ref 252, .ref 253, .int (mF M 18), .int (b2i (mB M)), .ref 254, .ref 255, .ref 256, .ref 257, .ref 258, .ref 259, .int (mF M 26), .int (mF M 27), .int (mF M 28), .int (mF M 29), .ref 260, .int (mF M 31)] : List Value).set 11 (.int v))), (zb_H I C Y Γ D O M ou od j).2) = zb_H I C Y Γ D O M1 ou od j := by
  subst hw
  refine zb_zH_set (by decide) rfl (fun b hb hne => cellM (a := 247) (by decide) (Nat.lt_trans hb (by decide)) (fun h => ?_))
  unfold px_cm
  rw [if_neg hne, if_neg hne]
  rfl
theorem zb_sf_8_12 {v : Int64} (hw : wmN M v = M1) : ((zb_H I C Y Γ D O M ou od j).1.set 247 (.inr (8, ([.int (mF M 0), .ref 248, .int (mF M 2), .int (mF M 3), .int (mF M 4), .int (mF M 5), .int (mF M 6), .int (mF M 7), .int (mF M 8), .int (mF M 9), .int (mF M 10), .int (mF M 11), .long (mN M), .ref 249, .ref 250, .ref 251, .ref 252, .ref 253, .int (mF M 18), .int (b2i (mB M)), .ref 254, .ref 255, .ref 256, .ref 257, .ref 258, .ref 259, .int (mF M 26), .int (mF M 27), .int (mF M 28), .int (mF M 29), .ref 260, .int (mF M 31)] : List Value).set 12 (.long v))), (zb_H I C Y Γ D O M ou od j).2) = zb_H I C Y Γ D O M1 ou od j := by
  subst hw
  refine zb_zH_set (by decide) rfl (fun b hb hne => cellM (a := 247) (by decide) (Nat.lt_trans hb (by decide)) (fun h => ?_))
  unfold px_cm
  rw [if_neg hne, if_neg hne]
  rfl
theorem zb_sf_8_18 {v : Int32} (hw : wmF M 18 v = M1) : ((zb_H I C Y Γ D O M ou od j).1.set 247 (.inr (8, ([.int (mF M 0), .ref 248, .int (mF M 2), .int (mF M 3), .int (mF M 4), .int (mF M 5), .int (mF M 6), .int (mF M 7), .int (mF M 8), .int (mF M 9), .int (mF M 10), .int (mF M 11), .long (mN M), .ref 249, .ref 250, .ref 251, .ref 252, .ref 253, .int (mF M 18), .int (b2i (mB M)), .ref 254, .ref 255, .ref 256, .ref 257, .ref 258, .ref 259, .int (mF M 26), .int (mF M 27), .int (mF M 28), .int (mF M 29), .ref 260, .int (mF M 31)] : List Value).set 18 (.int v))), (zb_H I C Y Γ D O M ou od j).2) = zb_H I C Y Γ D O M1 ou od j := by
  subst hw
  refine zb_zH_set (by decide) rfl (fun b hb hne => cellM (a := 247) (by decide) (Nat.lt_trans hb (by decide)) (fun h => ?_))
  unfold px_cm
  rw [if_neg hne, if_neg hne]
  rfl
theorem zb_sf_8_19 {v : Bool} (hw : wmB M v = M1) : ((zb_H I C Y Γ D O M ou od j).1.set 247 (.inr (8, ([.int (mF M 0), .ref 248, .int (mF M 2), .int (mF M 3), .int (mF M 4), .int (mF M 5), .int (mF M 6), .int (mF M 7), .int (mF M 8), .int (mF M 9), .int (mF M 10), .int (mF M 11), .long (mN M), .ref 249, .ref 250, .ref 251, .ref 252, .ref 253, .int (mF M 18), .int (b2i (mB M)), .ref 254, .ref 255, .ref 256, .ref 257, .ref 258, .ref 259, .int (mF M 26), .int (mF M 27), .int (mF M 28), .int (mF M 29), .ref 260, .int (mF M 31)] : List Value).set 19 (.int (b2i v)))), (zb_H I C Y Γ D O M ou od j).2) = zb_H I C Y Γ D O M1 ou od j := by
  subst hw
  refine zb_zH_set (by decide) rfl (fun b hb hne => cellM (a := 247) (by decide) (Nat.lt_trans hb (by decide)) (fun h => ?_))
  unfold px_cm
  rw [if_neg hne, if_neg hne]
  rfl
theorem zb_sf_8_26 {v : Int32} (hw : wmF M 26 v = M1) : ((zb_H I C Y Γ D O M ou od j).1.set 247 (.inr (8, ([.int (mF M 0), .ref 248, .int (mF M 2), .int (mF M 3), .int (mF M 4), .int (mF M 5), .int (mF M 6), .int (mF M 7), .int (mF M 8), .int (mF M 9), .int (mF M 10), .int (mF M 11), .long (mN M), .ref 249, .ref 250, .ref 251, .ref 252, .ref 253, .int (mF M 18), .int (b2i (mB M)), .ref 254, .ref 255, .ref 256, .ref 257, .ref 258, .ref 259, .int (mF M 26), .int (mF M 27), .int (mF M 28), .int (mF M 29), .ref 260, .int (mF M 31)] : List Value).set 26 (.int v))), (zb_H I C Y Γ D O M ou od j).2) = zb_H I C Y Γ D O M1 ou od j := by
  subst hw
  refine zb_zH_set (by decide) rfl (fun b hb hne => cellM (a := 247) (by decide) (Nat.lt_trans hb (by decide)) (fun h => ?_))
  unfold px_cm
  rw [if_neg hne, if_neg hne]
  rfl
theorem zb_sf_8_27 {v : Int32} (hw : wmF M 27 v = M1) : ((zb_H I C Y Γ D O M ou od j).1.set 247 (.inr (8, ([.int (mF M 0), .ref 248, .int (mF M 2), .int (mF M 3), .int (mF M 4), .int (mF M 5), .int (mF M 6), .int (mF M 7), .int (mF M 8), .int (mF M 9), .int (mF M 10), .int (mF M 11), .long (mN M), .ref 249, .ref 250, .ref 251, .ref 252, .ref 253, .int (mF M 18), .int (b2i (mB M)), .ref 254, .ref 255, .ref 256, .ref 257, .ref 258, .ref 259, .int (mF M 26), .int (mF M 27), .int (mF M 28), .int (mF M 29), .ref 260, .int (mF M 31)] : List Value).set 27 (.int v))), (zb_H I C Y Γ D O M ou od j).2) = zb_H I C Y Γ D O M1 ou od j := by
  subst hw
  refine zb_zH_set (by decide) rfl (fun b hb hne => cellM (a := 247) (by decide) (Nat.lt_trans hb (by decide)) (fun h => ?_))
  unfold px_cm
  rw [if_neg hne, if_neg hne]
  rfl
theorem zb_sf_8_28 {v : Int32} (hw : wmF M 28 v = M1) : ((zb_H I C Y Γ D O M ou od j).1.set 247 (.inr (8, ([.int (mF M 0), .ref 248, .int (mF M 2), .int (mF M 3), .int (mF M 4), .int (mF M 5), .int (mF M 6), .int (mF M 7), .int (mF M 8), .int (mF M 9), .int (mF M 10), .int (mF M 11), .long (mN M), .ref 249, .ref 250, .ref 251, .ref 252, .ref 253, .int (mF M 18), .int (b2i (mB M)), .ref 254, .ref 255, .ref 256, .ref 257, .ref 258, .ref 259, .int (mF M 26), .int (mF M 27), .int (mF M 28), .int (mF M 29), .ref 260, .int (mF M 31)] : List Value).set 28 (.int v))), (zb_H I C Y Γ D O M ou od j).2) = zb_H I C Y Γ D O M1 ou od j := by
  subst hw
  refine zb_zH_set (by decide) rfl (fun b hb hne => cellM (a := 247) (by decide) (Nat.lt_trans hb (by decide)) (fun h => ?_))
  unfold px_cm
  rw [if_neg hne, if_neg hne]
  rfl
theorem zb_sf_8_29 {v : Int32} (hw : wmF M 29 v = M1) : ((zb_H I C Y Γ D O M ou od j).1.set 247 (.inr (8, ([.int (mF M 0), .ref 248, .int (mF M 2), .int (mF M 3), .int (mF M 4), .int (mF M 5), .int (mF M 6), .int (mF M 7), .int (mF M 8), .int (mF M 9), .int (mF M 10), .int (mF M 11), .long (mN M), .ref 249, .ref 250, .ref 251, .ref 252, .ref 253, .int (mF M 18), .int (b2i (mB M)), .ref 254, .ref 255, .ref 256, .ref 257, .ref 258, .ref 259, .int (mF M 26), .int (mF M 27), .int (mF M 28), .int (mF M 29), .ref 260, .int (mF M 31)] : List Value).set 29 (.int v))), (zb_H I C Y Γ D O M ou od j).2) = zb_H I C Y Γ D O M1 ou od j := by
  subst hw
  refine zb_zH_set (by decide) rfl (fun b hb hne => cellM (a := 247) (by decide) (Nat.lt_trans hb (by decide)) (fun h => ?_))
  unfold px_cm
  rw [if_neg hne, if_neg hne]
  rfl
theorem zb_sf_8_31 {v : Int32} (hw : wmF M 31 v = M1) : ((zb_H I C Y Γ D O M ou od j).1.set 247 (.inr (8, ([.int (mF M 0), .ref 248, .int (mF M 2), .int (mF M 3), .int (mF M 4), .int (mF M 5), .int (mF M 6), .int (mF M 7), .int (mF M 8), .int (mF M 9), .int (mF M 10), .int (mF M 11), .long (mN M), .ref 249, .ref 250, .ref 251, .ref 252, .ref 253, .int (mF M 18), .int (b2i (mB M)), .ref 254, .ref 255, .ref 256, .ref 257, .ref 258, .ref 259, .int (mF M 26), .int (mF M 27), .int (mF M 28), .int (mF M 29), .ref 260, .int (mF M 31)] : List Value).set 31 (.int v))), (zb_H I C Y Γ D O M ou od j).2) = zb_H I C Y Γ D O M1 ou od j := by
  subst hw
  refine zb_zH_set (by decide) rfl (fun b hb hne => cellM (a := 247) (by decide) (Nat.lt_trans hb (by decide)) (fun h => ?_))
  unfold px_cm
  rw [if_neg hne, if_neg hne]
  rfl
theorem zb_sa_ma {a : Nat} {A : Nat → Int32} (ha : isMA a) (hw : wmA M a A = M1) : ((zb_H I C Y Γ D O M ou od j).1.set a (.inl (0, mlen a, .inl A)), (zb_H I C Y Γ D O M ou od j).2) = zb_H I C Y Γ D O M1 ou od j := by
  subst hw
  obtain ⟨h1, h2⟩ := ha
  refine zb_zH_set (by omega) ?_ (fun b hb hne => cellM (a := a) (by omega) (Nat.lt_trans hb (by decide)) (fun h => ?_))
  · unfold px_cell px_cm
    rw [if_neg (by omega), if_neg (by omega), if_neg (by omega), if_neg (by omega), if_neg (by omega), if_neg (by omega), if_pos (by omega)]
    have e1 : mA (wmA M a A) a = A := z1_same
    rw [e1]
    rfl
  · have e1 : mA (wmA M a A) b = mA M b := z1_ne hne
    have e2 : mF (wmA M a A) = mF M := rfl
    have e3 : mN (wmA M a A) = mN M := rfl
    have e4 : mB (wmA M a A) = mB M := rfl
    unfold px_cm
    rw [e1, e2, e3, e4]
theorem zb_sa_m249 {A : Nat → Int32} (hw : wmA M 249 A = M1) : ((zb_H I C Y Γ D O M ou od j).1.set 249 (.inl (0, 160, .inl A)), (zb_H I C Y Γ D O M ou od j).2) = zb_H I C Y Γ D O M1 ou od j := zb_sa_ma ma_249 hw
def za_qG_clear_10 (S : Nat) (xs : Nat → Int32) (I : zI) (C : zC) (Y : Nat → Int32) (Γ : Nat → zG) (D : zD) (O : Nat → Int32) (M : zM) (ou : Nat → Int64) (od : Nat → UInt64) (j : Nat) (g : Nat) (y : (Option Value ⊕ String) × px_H) (s : zG × Int32) : Prop := Ev S xs 216 10 [some (.ref g), some (.int s.2)] [] (za_H I C Y (gup Γ g s.1) D O M ou od j) y
set_option maxRecDepth 4000 in
theorem za_rG_clear_b10 {S : Nat} {xs : Nat → Int32} {I : zI} {C : zC} {Y : Nat → Int32} {Γ : Nat → zG} {D : zD} {O : Nat → Int32} {M : zM} {ou : Nat → Int64} {od : Nat → UInt64} {j : Nat} {g : Nat}  {y : (Option Value ⊕ String) × px_H} {s : zG × Int32} {x : (zG × Int32) ⊕ (zG)} (hg : isG g) (hx : fG_clear_b10 s.1 s.2 = some x) (hM : (Sum.elim (za_qG_clear_10 S xs I C Y Γ D O M ou od j g y) (fun X : zG => y = (((.inl none), (za_H I C Y (gup Γ g X) D O M ou od j)) : (Option Value ⊕ String) × px_H))) x) : za_qG_clear_10 S xs I C Y Γ D O M ou od j g y s := by
  obtain ⟨G, a1⟩ := s
  have hk : pt_mt[216]? = some pt_r216 := rfl
  unfold fG_clear_b10 at hx
  try dsimp only at hx
  refine ev_ls (L' := [some (.ref g), some (.int a1)]) (st' := [.int a1]) (pc' := 11) hk (.iload_n 1) 1 rfl rfl rfl rfl ?_
  refine ev_op (st' := [.int 9, .int a1]) (pc' := 13) hk (.bipush 9) 2 rfl rfl rfl ?_
  refine ev_d2 31 16 hk rfl rfl rfl rfl (px_cge hx (fun hc hx => ?_) (fun hc hx => ?_))
  · refine ev_ls (L' := [some (.ref g), some (.int a1)]) (st' := [.ref g]) (pc' := 32) hk (.aload_n 0) 1 rfl rfl rfl rfl ?_
    refine ev_op (st' := [.int 0, .ref g]) (pc' := 33) hk (.iconst 0) 1 rfl rfl rfl ?_
    obtain ⟨G13, hG13, hx⟩ := bnd_some hx
    have hG13 := Option.some.inj hG13
    refine ev_pf 36 hk rfl rfl (za_lk_globe hg gup_same) rfl rfl rfl (za_sf_1_2 hg  gup_same hG13 gup_gup) rfl ?_
    refine ev_ls (L' := [some (.ref g), some (.int a1)]) (st' := [.ref g]) (pc' := 37) hk (.aload_n 0) 1 rfl rfl rfl rfl ?_
    refine ev_op (st' := [.int 500, .ref g]) (pc' := 40) hk (.sipush 500) 3 rfl rfl rfl ?_
    obtain ⟨G14, hG14, hx⟩ := bnd_some hx
    have hG14 := Option.some.inj hG14
    refine ev_pf 43 hk rfl rfl (za_lk_globe hg gup_same) rfl rfl rfl (za_sf_1_3 hg  gup_same hG14 gup_gup) rfl ?_
    refine ev_ls (L' := [some (.ref g), some (.int a1)]) (st' := [.ref g]) (pc' := 44) hk (.aload_n 0) 1 rfl rfl rfl rfl ?_
    refine ev_op (st' := [.int 0, .ref g]) (pc' := 45) hk (.iconst 0) 1 rfl rfl rfl ?_
    obtain ⟨G15, hG15, hx⟩ := bnd_some hx
    have hG15 := Option.some.inj hG15
    refine ev_pf 48 hk rfl rfl (za_lk_globe hg gup_same) rfl rfl rfl (za_sf_1_4 hg  gup_same hG15 gup_gup) rfl ?_
    refine ev_ls (L' := [some (.ref g), some (.int a1)]) (st' := [.ref g]) (pc' := 49) hk (.aload_n 0) 1 rfl rfl rfl rfl ?_
    refine ev_op (st' := [.int 0, .ref g]) (pc' := 50) hk (.iconst 0) 1 rfl rfl rfl ?_
    obtain ⟨G16, hG16, hx⟩ := bnd_some hx
    have hG16 := Option.some.inj hG16
    refine ev_pf 53 hk rfl rfl (za_lk_globe hg gup_same) rfl rfl rfl (za_sf_1_6 hg  gup_same hG16 gup_gup) rfl ?_
    cases hx
    obtain rfl := hM
    exact ev_retv hk rfl rfl
  · refine ev_ls (L' := [some (.ref g), some (.int a1)]) (st' := [.ref g]) (pc' := 17) hk (.aload_n 0) 1 rfl rfl rfl rfl ?_
    refine ev_gf (.ref (g + 5)) 20 hk rfl rfl (za_lk_globe hg gup_same) rfl rfl ?_
    refine ev_ls (L' := [some (.ref g), some (.int a1)]) (st' := [.int a1, .ref (g + 5)]) (pc' := 21) hk (.iload_n 1) 1 rfl rfl rfl rfl ?_
    refine ev_op (st' := [.int 180, .int a1, .ref (g + 5)]) (pc' := 24) hk (.sipush 180) 3 rfl rfl rfl ?_
    obtain ⟨A17, hA17, hx⟩ := bnd_some hx
    obtain ⟨G18, hG18, hx⟩ := bnd_some hx
    have hG18 := Option.some.inj hG18
    refine ev_ias hA17 25 hk rfl (za_lk_a5 hg gup_same) (za_sa_g5 hg gup_same hG18 gup_gup) rfl ?_
    refine ev_ls (L' := [some (.ref g), some (.int (a1 + 1))]) (st' := []) (pc' := 28) hk (.iinc 1 1) 3 rfl rfl rfl rfl ?_
    refine ev_jp (pc' := 10) (st' := []) hk (.goto (-18)) 3 rfl rfl rfl rfl rfl ?_
    cases hx
    exact hM
set_option maxRecDepth 2000 in
theorem za_rG_clear {S : Nat} {xs : Nat → Int32} {I : zI} {C : zC} {Y : Nat → Int32} {Γ : Nat → zG} {D : zD} {O : Nat → Int32} {M : zM} {ou : Nat → Int64} {od : Nat → UInt64} {j : Nat} {g : Nat} {G : zG}  {X : zG}  (hg : isG g) (hx : fG_clear G = some X) : Ev S xs 216 0 [some (.ref g), none] [] (za_H I C Y (gup Γ g G) D O M ou od j) (((.inl none), (za_H I C Y (gup Γ g X) D O M ou od j)) : (Option Value ⊕ String) × px_H) := by
  generalize hM : (((.inl none), (za_H I C Y (gup Γ g X) D O M ou od j)) : (Option Value ⊕ String) × px_H) = y
  replace hM := hM.symm
  have hk : pt_mt[216]? = some pt_r216 := rfl
  unfold fG_clear at hx
  refine ev_ls (L' := [some (.ref g), none]) (st' := [.ref g]) (pc' := 1) hk (.aload_n 0) 1 rfl rfl rfl rfl ?_
  refine ev_gf (.ref (g + 1)) 4 hk rfl rfl (za_lk_globe hg gup_same) rfl rfl ?_
  refine ev_op (st' := [.int 0, .ref (g + 1)]) (pc' := 5) hk (.iconst 0) 1 rfl rfl rfl ?_
  obtain ⟨G19, hG19, hx⟩ := bnd_some hx
  have hG19 := Option.some.inj hG19
  refine ev_pf 8 hk rfl rfl (za_lk_cloth hg gup_same) rfl rfl rfl (za_sf_0_0 hg  gup_same hG19 gup_gup) rfl ?_
  refine ev_op (st' := [.int 0]) (pc' := 9) hk (.iconst 0) 1 rfl rfl rfl ?_
  refine ev_ls (L' := [some (.ref g), some (.int 0)]) (st' := []) (pc' := 10) hk (.istore_n 1) 1 rfl rfl rfl rfl ?_
  exact ev_iter (za_qG_clear_10 S xs I C Y Γ D O M ou od j g _) (fun X : zG => y = (((.inl none), (za_H I C Y (gup Γ g X) D O M ou od j)) : (Option Value ⊕ String) × px_H)) (fun s x hb hM => za_rG_clear_b10 hg hb hM) fu _ _ hx hM 
set_option maxRecDepth 4000 in
theorem za_rC_addGore_j52 {S : Nat} {xs : Nat → Int32} {I : zI} {C : zC} {Y : Nat → Int32} {Γ : Nat → zG} {D : zD} {O : Nat → Int32} {M : zM} {ou : Nat → Int64} {od : Nat → UInt64} {j : Nat} {g : Nat} {G : zG} {a1 : Int32} {a0t : Int32} {a1t : Int32} {y : (Option Value ⊕ String) × px_H} {x : zG} (hg : isG g) (hx : fC_addGore_j52 G a1 a0t a1t = some x) (hM : (fun X : zG => y = (((.inl none), (za_H I C Y (gup Γ g X) D O M ou od j)) : (Option Value ⊕ String) × px_H)) x)  : Ev S xs 5 52 [some (.ref (g + 1)), some (.int a1)] [.int a0t, .int a1t, .ref (g + 3)] (za_H I C Y (gup Γ g G) D O M ou od j) y := by
  have hk : pt_mt[5]? = some pt_r5 := rfl
  unfold fC_addGore_j52 at hx
  obtain ⟨A17, hA17, hx⟩ := bnd_some hx
  obtain ⟨G18, hG18, hx⟩ := bnd_some hx
  have hG18 := Option.some.inj hG18
  refine ev_ias hA17 53 hk rfl (za_lk_a3 hg gup_same) (za_sa_g3 hg gup_same hG18 gup_gup) rfl ?_
  refine ev_ls (L' := [some (.ref (g + 1)), some (.int a1)]) (st' := [.ref (g + 1)]) (pc' := 54) hk (.aload_n 0) 1 rfl rfl rfl rfl ?_
  refine ev_gf (.ref (g + 2)) 57 hk rfl rfl (za_lk_cloth hg gup_same) rfl rfl ?_
  refine ev_ls (L' := [some (.ref (g + 1)), some (.int a1)]) (st' := [.ref (g + 1), .ref (g + 2)]) (pc' := 58) hk (.aload_n 0) 1 rfl rfl rfl rfl ?_
  refine ev_gf (.int (gF G18 1 0)) 61 hk rfl rfl (za_lk_cloth hg gup_same) rfl rfl ?_
  refine ev_ls (L' := [some (.ref (g + 1)), some (.int a1)]) (st' := [.int a1, .int (gF G18 1 0), .ref (g + 2)]) (pc' := 62) hk (.iload_n 1) 1 rfl rfl rfl rfl ?_
  obtain ⟨A19, hA19, hx⟩ := bnd_some hx
  obtain ⟨G20, hG20, hx⟩ := bnd_some hx
  have hG20 := Option.some.inj hG20
  refine ev_ias hA19 63 hk rfl (za_lk_a2 hg gup_same) (za_sa_g2 hg gup_same hG20 gup_gup) rfl ?_
  refine ev_ls (L' := [some (.ref (g + 1)), some (.int a1)]) (st' := [.ref (g + 1)]) (pc' := 64) hk (.aload_n 0) 1 rfl rfl rfl rfl ?_
  refine ev_gf (.ref (g + 4)) 67 hk rfl rfl (za_lk_cloth hg gup_same) rfl rfl ?_
  refine ev_ls (L' := [some (.ref (g + 1)), some (.int a1)]) (st' := [.ref (g + 1), .ref (g + 4)]) (pc' := 68) hk (.aload_n 0) 1 rfl rfl rfl rfl ?_
  refine ev_gf (.int (gF G20 1 0)) 71 hk rfl rfl (za_lk_cloth hg gup_same) rfl rfl ?_
  refine ev_op (st' := [.int 20, .int (gF G20 1 0), .ref (g + 4)]) (pc' := 73) hk (.bipush 20) 2 rfl rfl rfl ?_
  obtain ⟨A21, hA21, hx⟩ := bnd_some hx
  obtain ⟨G22, hG22, hx⟩ := bnd_some hx
  have hG22 := Option.some.inj hG22
  refine ev_ias hA21 74 hk rfl (za_lk_a4 hg gup_same) (za_sa_g4 hg gup_same hG22 gup_gup) rfl ?_
  refine ev_ls (L' := [some (.ref (g + 1)), some (.int a1)]) (st' := [.ref (g + 1)]) (pc' := 75) hk (.aload_n 0) 1 rfl rfl rfl rfl ?_
  refine ev_op (st' := [.ref (g + 1), .ref (g + 1)]) (pc' := 76) hk (.dup) 1 rfl rfl rfl ?_
  refine ev_gf (.int (gF G22 1 0)) 79 hk rfl rfl (za_lk_cloth hg gup_same) rfl rfl ?_
  refine ev_op (st' := [.int 1, .int (gF G22 1 0), .ref (g + 1)]) (pc' := 80) hk (.iconst 1) 1 rfl rfl rfl ?_
  refine ev_op (st' := [.int ((gF G22 1 0) + 1), .ref (g + 1)]) (pc' := 81) hk (.iadd) 1 rfl rfl rfl ?_
  obtain ⟨G23, hG23, hx⟩ := bnd_some hx
  have hG23 := Option.some.inj hG23
  refine ev_pf 84 hk rfl rfl (za_lk_cloth hg gup_same) rfl rfl rfl (za_sf_0_0 hg  gup_same hG23 gup_gup) rfl ?_
  cases hx
  obtain rfl := hM
  exact ev_retv hk rfl rfl
set_option maxRecDepth 2000 in
theorem za_rC_addGore {S : Nat} {xs : Nat → Int32} {I : zI} {C : zC} {Y : Nat → Int32} {Γ : Nat → zG} {D : zD} {O : Nat → Int32} {M : zM} {ou : Nat → Int64} {od : Nat → UInt64} {j : Nat} {g : Nat} {G : zG} {a1 : Int32} {X : zG}  (hg : isG g) (hx : fC_addGore G a1 = some X) : Ev S xs 5 0 [some (.ref (g + 1)), some (.int a1)] [] (za_H I C Y (gup Γ g G) D O M ou od j) (((.inl none), (za_H I C Y (gup Γ g X) D O M ou od j)) : (Option Value ⊕ String) × px_H) := by
  generalize hM : (((.inl none), (za_H I C Y (gup Γ g X) D O M ou od j)) : (Option Value ⊕ String) × px_H) = y
  replace hM := hM.symm
  have hk : pt_mt[5]? = some pt_r5 := rfl
  unfold fC_addGore at hx
  refine ev_ls (L' := [some (.ref (g + 1)), some (.int a1)]) (st' := [.ref (g + 1)]) (pc' := 1) hk (.aload_n 0) 1 rfl rfl rfl rfl ?_
  refine ev_gf (.int (gF G 1 0)) 4 hk rfl rfl (za_lk_cloth hg gup_same) rfl rfl ?_
  refine ev_op (st' := [.int 12, .int (gF G 1 0)]) (pc' := 6) hk (.bipush 12) 2 rfl rfl rfl ?_
  refine ev_d2 10 9 hk rfl rfl rfl rfl (px_clt hx (fun hc hx => ?_) (fun hc hx => ?_))
  · refine ev_ls (L' := [some (.ref (g + 1)), some (.int a1)]) (st' := [.ref (g + 1)]) (pc' := 11) hk (.aload_n 0) 1 rfl rfl rfl rfl ?_
    refine ev_gf (.ref (g + 3)) 14 hk rfl rfl (za_lk_cloth hg gup_same) rfl rfl ?_
    refine ev_ls (L' := [some (.ref (g + 1)), some (.int a1)]) (st' := [.ref (g + 1), .ref (g + 3)]) (pc' := 15) hk (.aload_n 0) 1 rfl rfl rfl rfl ?_
    refine ev_gf (.int (gF G 1 0)) 18 hk rfl rfl (za_lk_cloth hg gup_same) rfl rfl ?_
    refine ev_ls (L' := [some (.ref (g + 1)), some (.int a1)]) (st' := [.ref (g + 1), .int (gF G 1 0), .ref (g + 3)]) (pc' := 19) hk (.aload_n 0) 1 rfl rfl rfl rfl ?_
    refine ev_gf (.int (gF G 1 0)) 22 hk rfl rfl (za_lk_cloth hg gup_same) rfl rfl ?_
    refine ev_d1 29 25 hk rfl rfl rfl rfl (px_cne hx (fun hc hx => ?_) (fun hc hx => ?_))
    · refine ev_ls (L' := [some (.ref (g + 1)), some (.int a1)]) (st' := [.ref (g + 1), .int (gF G 1 0), .ref (g + 3)]) (pc' := 30) hk (.aload_n 0) 1 rfl rfl rfl rfl ?_
      refine ev_gf (.ref (g + 3)) 33 hk rfl rfl (za_lk_cloth hg gup_same) rfl rfl ?_
      refine ev_ls (L' := [some (.ref (g + 1)), some (.int a1)]) (st' := [.ref (g + 1), .ref (g + 3), .int (gF G 1 0), .ref (g + 3)]) (pc' := 34) hk (.aload_n 0) 1 rfl rfl rfl rfl ?_
      refine ev_gf (.int (gF G 1 0)) 37 hk rfl rfl (za_lk_cloth hg gup_same) rfl rfl ?_
      refine ev_op (st' := [.int 1, .int (gF G 1 0), .ref (g + 3), .int (gF G 1 0), .ref (g + 3)]) (pc' := 38) hk (.iconst 1) 1 rfl rfl rfl ?_
      refine ev_op (st' := [.int ((gF G 1 0) - 1), .ref (g + 3), .int (gF G 1 0), .ref (g + 3)]) (pc' := 39) hk (.isub) 1 rfl rfl rfl ?_
      obtain ⟨v24, hv24, hx⟩ := bnd_some hx
      refine ev_ial hv24 40 hk rfl (za_lk_a3 hg gup_same) rfl ?_
      refine ev_ls (L' := [some (.ref (g + 1)), some (.int a1)]) (st' := [.ref (g + 1), .int v24, .int (gF G 1 0), .ref (g + 3)]) (pc' := 41) hk (.aload_n 0) 1 rfl rfl rfl rfl ?_
      refine ev_gf (.ref (g + 2)) 44 hk rfl rfl (za_lk_cloth hg gup_same) rfl rfl ?_
      refine ev_ls (L' := [some (.ref (g + 1)), some (.int a1)]) (st' := [.ref (g + 1), .ref (g + 2), .int v24, .int (gF G 1 0), .ref (g + 3)]) (pc' := 45) hk (.aload_n 0) 1 rfl rfl rfl rfl ?_
      refine ev_gf (.int (gF G 1 0)) 48 hk rfl rfl (za_lk_cloth hg gup_same) rfl rfl ?_
      refine ev_op (st' := [.int 1, .int (gF G 1 0), .ref (g + 2), .int v24, .int (gF G 1 0), .ref (g + 3)]) (pc' := 49) hk (.iconst 1) 1 rfl rfl rfl ?_
      refine ev_op (st' := [.int ((gF G 1 0) - 1), .ref (g + 2), .int v24, .int (gF G 1 0), .ref (g + 3)]) (pc' := 50) hk (.isub) 1 rfl rfl rfl ?_
      obtain ⟨v25, hv25, hx⟩ := bnd_some hx
      refine ev_ial hv25 51 hk rfl (za_lk_a2 hg gup_same) rfl ?_
      refine ev_op (st' := [.int (v24 + v25), .int (gF G 1 0), .ref (g + 3)]) (pc' := 52) hk (.iadd) 1 rfl rfl rfl ?_
      exact za_rC_addGore_j52 hg hx hM 
    · refine ev_op (st' := [.int 0, .int (gF G 1 0), .ref (g + 3)]) (pc' := 26) hk (.iconst 0) 1 rfl rfl rfl ?_
      refine ev_jp (pc' := 52) (st' := [.int 0, .int (gF G 1 0), .ref (g + 3)]) hk (.goto 26) 3 rfl rfl rfl rfl rfl ?_
      exact za_rC_addGore_j52 hg hx hM 
  · cases hx
    obtain rfl := hM
    exact ev_retv hk rfl rfl
def zb_qM_begins_2 (S : Nat) (xs : Nat → Int32) (I : zI) (C : zC) (Y : Nat → Int32) (Γ : Nat → zG) (D : zD) (O : Nat → Int32) (ou : Nat → Int64) (od : Nat → UInt64) (j : Nat) (y : (Option Value ⊕ String) × px_H) (s : zM × Int32) : Prop := Ev S xs 28 2 [some (.ref 247), some (.int s.2)] [] (zb_H I C Y Γ D O s.1 ou od j) y
def zb_qM_begins_33 (S : Nat) (xs : Nat → Int32) (I : zI) (C : zC) (Y : Nat → Int32) (Γ : Nat → zG) (D : zD) (O : Nat → Int32) (ou : Nat → Int64) (od : Nat → UInt64) (j : Nat) (y : (Option Value ⊕ String) × px_H) (s : zM × Int32) : Prop := Ev S xs 28 33 [some (.ref 247), some (.int s.2)] [] (zb_H I C Y Γ D O s.1 ou od j) y
set_option maxRecDepth 4000 in
theorem zb_rM_begins_b33 {S : Nat} {xs : Nat → Int32} {I : zI} {C : zC} {Y : Nat → Int32} {Γ : Nat → zG} {D : zD} {O : Nat → Int32} {ou : Nat → Int64} {od : Nat → UInt64} {j : Nat}  {y : (Option Value ⊕ String) × px_H} {s : zM × Int32} {x : (zM × Int32) ⊕ (zM)}  (hx : fM_begins_b33 s.1 s.2 = some x) (hM : (Sum.elim (zb_qM_begins_33 S xs I C Y Γ D O ou od j y) (fun X : zM => y = (((.inl none), (zb_H I C Y Γ D O X ou od j)) : (Option Value ⊕ String) × px_H))) x) : zb_qM_begins_33 S xs I C Y Γ D O ou od j y s := by
  obtain ⟨M, a1⟩ := s
  have hk : pt_mt[28]? = some pt_r28 := rfl
  unfold fM_begins_b33 at hx
  try dsimp only at hx
  refine ev_ls (L' := [some (.ref 247), some (.int a1)]) (st' := [.int a1]) (pc' := 34) hk (.iload_n 1) 1 rfl rfl rfl rfl ?_
  refine ev_op (st' := [.int 9, .int a1]) (pc' := 36) hk (.bipush 9) 2 rfl rfl rfl ?_
  refine ev_d2 56 39 hk rfl rfl rfl rfl (px_cge hx (fun hc hx => ?_) (fun hc hx => ?_))
  · cases hx
    obtain rfl := hM
    exact ev_retv hk rfl rfl
  · refine ev_ls (L' := [some (.ref 247), some (.int a1)]) (st' := [.ref 247]) (pc' := 40) hk (.aload_n 0) 1 rfl rfl rfl rfl ?_
    refine ev_gf (.ref 249) 43 hk rfl rfl zb_lk_model rfl rfl ?_
    refine ev_op (st' := [.int 5, .ref 249]) (pc' := 44) hk (.iconst 5) 1 rfl rfl rfl ?_
    refine ev_ls (L' := [some (.ref 247), some (.int a1)]) (st' := [.int a1, .int 5, .ref 249]) (pc' := 45) hk (.iload_n 1) 1 rfl rfl rfl rfl ?_
    refine ev_op (st' := [.int (5 + a1), .ref 249]) (pc' := 46) hk (.iadd) 1 rfl rfl rfl ?_
    refine ev_op (st' := [.int 180, .int (5 + a1), .ref 249]) (pc' := 49) hk (.sipush 180) 3 rfl rfl rfl ?_
    obtain ⟨A13, hA13, hx⟩ := bnd_some hx
    obtain ⟨M14, hM14, hx⟩ := bnd_some hx
    have hM14 := Option.some.inj hM14
    refine ev_ias hA13 50 hk rfl zb_lk_m249 (zb_sa_m249 hM14) rfl ?_
    refine ev_ls (L' := [some (.ref 247), some (.int (a1 + 1))]) (st' := []) (pc' := 53) hk (.iinc 1 1) 3 rfl rfl rfl rfl ?_
    refine ev_jp (pc' := 33) (st' := []) hk (.goto (-20)) 3 rfl rfl rfl rfl rfl ?_
    cases hx
    exact hM
set_option maxRecDepth 4000 in
theorem zb_rM_begins_b2 {S : Nat} {xs : Nat → Int32} {I : zI} {C : zC} {Y : Nat → Int32} {Γ : Nat → zG} {D : zD} {O : Nat → Int32} {ou : Nat → Int64} {od : Nat → UInt64} {j : Nat}  {y : (Option Value ⊕ String) × px_H} {s : zM × Int32} {x : (zM × Int32) ⊕ (zM)}  (hx : fM_begins_b2 s.1 s.2 = some x) (hM : (Sum.elim (zb_qM_begins_2 S xs I C Y Γ D O ou od j y) (fun X : zM => y = (((.inl none), (zb_H I C Y Γ D O X ou od j)) : (Option Value ⊕ String) × px_H))) x) : zb_qM_begins_2 S xs I C Y Γ D O ou od j y s := by
  obtain ⟨M, a1⟩ := s
  have hk : pt_mt[28]? = some pt_r28 := rfl
  unfold fM_begins_b2 at hx
  try dsimp only at hx
  refine ev_ls (L' := [some (.ref 247), some (.int a1)]) (st' := [.int a1]) (pc' := 3) hk (.iload_n 1) 1 rfl rfl rfl rfl ?_
  refine ev_op (st' := [.int 160, .int a1]) (pc' := 6) hk (.sipush 160) 3 rfl rfl rfl ?_
  refine ev_d2 22 9 hk rfl rfl rfl rfl (px_cge hx (fun hc hx => ?_) (fun hc hx => ?_))
  · refine ev_ls (L' := [some (.ref 247), some (.int a1)]) (st' := [.ref 247]) (pc' := 23) hk (.aload_n 0) 1 rfl rfl rfl rfl ?_
    refine ev_gf (.ref 249) 26 hk rfl rfl zb_lk_model rfl rfl ?_
    refine ev_op (st' := [.int 3, .ref 249]) (pc' := 27) hk (.iconst 3) 1 rfl rfl rfl ?_
    refine ev_op (st' := [.int 500, .int 3, .ref 249]) (pc' := 30) hk (.sipush 500) 3 rfl rfl rfl ?_
    obtain ⟨M10, hM10, hx⟩ := bnd_some hx
    have hM10 := Option.some.inj hM10
    refine ev_ias (A := (upd (mA M 249) 3 500)) rfl 31 hk rfl zb_lk_m249 (zb_sa_m249 hM10) rfl ?_
    refine ev_op (st' := [.int 0]) (pc' := 32) hk (.iconst 0) 1 rfl rfl rfl ?_
    refine ev_ls (L' := [some (.ref 247), some (.int 0)]) (st' := []) (pc' := 33) hk (.istore_n 1) 1 rfl rfl rfl rfl ?_
    obtain ⟨X, hx2, hX⟩ := Option.map_eq_some_iff.mp hx
    clear hx; subst hX; have hx := hx2; clear hx2
    exact ev_iter (zb_qM_begins_33 S xs I C Y Γ D O ou od j _) (fun X : zM => y = (((.inl none), (zb_H I C Y Γ D O X ou od j)) : (Option Value ⊕ String) × px_H)) (fun s x hb hM => zb_rM_begins_b33 hb hM) fu _ _ hx hM 
  · refine ev_ls (L' := [some (.ref 247), some (.int a1)]) (st' := [.ref 247]) (pc' := 10) hk (.aload_n 0) 1 rfl rfl rfl rfl ?_
    refine ev_gf (.ref 249) 13 hk rfl rfl zb_lk_model rfl rfl ?_
    refine ev_ls (L' := [some (.ref 247), some (.int a1)]) (st' := [.int a1, .ref 249]) (pc' := 14) hk (.iload_n 1) 1 rfl rfl rfl rfl ?_
    refine ev_op (st' := [.int 0, .int a1, .ref 249]) (pc' := 15) hk (.iconst 0) 1 rfl rfl rfl ?_
    obtain ⟨A11, hA11, hx⟩ := bnd_some hx
    obtain ⟨M12, hM12, hx⟩ := bnd_some hx
    have hM12 := Option.some.inj hM12
    refine ev_ias hA11 16 hk rfl zb_lk_m249 (zb_sa_m249 hM12) rfl ?_
    refine ev_ls (L' := [some (.ref 247), some (.int (a1 + 1))]) (st' := []) (pc' := 19) hk (.iinc 1 1) 3 rfl rfl rfl rfl ?_
    refine ev_jp (pc' := 2) (st' := []) hk (.goto (-17)) 3 rfl rfl rfl rfl rfl ?_
    cases hx
    exact hM
set_option maxRecDepth 2000 in
theorem zb_rM_begins {S : Nat} {xs : Nat → Int32} {I : zI} {C : zC} {Y : Nat → Int32} {Γ : Nat → zG} {D : zD} {O : Nat → Int32} {M : zM} {ou : Nat → Int64} {od : Nat → UInt64} {j : Nat}  {X : zM}   (hx : fM_begins M = some X) : Ev S xs 28 0 [some (.ref 247), none] [] (zb_H I C Y Γ D O M ou od j) (((.inl none), (zb_H I C Y Γ D O X ou od j)) : (Option Value ⊕ String) × px_H) := by
  generalize hM : (((.inl none), (zb_H I C Y Γ D O X ou od j)) : (Option Value ⊕ String) × px_H) = y
  replace hM := hM.symm
  have hk : pt_mt[28]? = some pt_r28 := rfl
  unfold fM_begins at hx
  refine ev_op (st' := [.int 0]) (pc' := 1) hk (.iconst 0) 1 rfl rfl rfl ?_
  refine ev_ls (L' := [some (.ref 247), some (.int 0)]) (st' := []) (pc' := 2) hk (.istore_n 1) 1 rfl rfl rfl rfl ?_
  exact ev_iter (zb_qM_begins_2 S xs I C Y Γ D O ou od j _) (fun X : zM => y = (((.inl none), (zb_H I C Y Γ D O X ou od j)) : (Option Value ⊕ String) × px_H)) (fun s x hb hM => zb_rM_begins_b2 hb hM) fu _ _ hx hM 
set_option maxRecDepth 2000 in
theorem zb_rM_addsGore {S : Nat} {xs : Nat → Int32} {I : zI} {C : zC} {Y : Nat → Int32} {Γ : Nat → zG} {D : zD} {O : Nat → Int32} {M : zM} {ou : Nat → Int64} {od : Nat → UInt64} {j : Nat} {a1 : Int32} {X : zM}   (hx : fM_addsGore M a1 = some X) : Ev S xs 20 0 [some (.ref 247), some (.int a1)] [] (zb_H I C Y Γ D O M ou od j) (((.inl none), (zb_H I C Y Γ D O X ou od j)) : (Option Value ⊕ String) × px_H) := by
  generalize hM : (((.inl none), (zb_H I C Y Γ D O X ou od j)) : (Option Value ⊕ String) × px_H) = y
  replace hM := hM.symm
  have hk : pt_mt[20]? = some pt_r20 := rfl
  unfold fM_addsGore at hx
  refine ev_ls (L' := [some (.ref 247), some (.int a1)]) (st' := [.ref 247]) (pc' := 1) hk (.aload_n 0) 1 rfl rfl rfl rfl ?_
  refine ev_gf (.ref 249) 4 hk rfl rfl zb_lk_model rfl rfl ?_
  refine ev_op (st' := [.int 14, .ref 249]) (pc' := 6) hk (.bipush 14) 2 rfl rfl rfl ?_
  refine ev_ls (L' := [some (.ref 247), some (.int a1)]) (st' := [.ref 247, .int 14, .ref 249]) (pc' := 7) hk (.aload_n 0) 1 rfl rfl rfl rfl ?_
  refine ev_gf (.ref 249) 10 hk rfl rfl zb_lk_model rfl rfl ?_
  refine ev_op (st' := [.int 0, .ref 249, .int 14, .ref 249]) (pc' := 11) hk (.iconst 0) 1 rfl rfl rfl ?_
  refine ev_ial (v := ((mA M 249) 0)) rfl 12 hk rfl zb_lk_m249 rfl ?_
  refine ev_op (st' := [.int (14 + ((mA M 249) 0)), .ref 249]) (pc' := 13) hk (.iadd) 1 rfl rfl rfl ?_
  refine ev_ls (L' := [some (.ref 247), some (.int a1)]) (st' := [.int a1, .int (14 + ((mA M 249) 0)), .ref 249]) (pc' := 14) hk (.iload_n 1) 1 rfl rfl rfl rfl ?_
  obtain ⟨A6, hA6, hx⟩ := bnd_some hx
  obtain ⟨M7, hM7, hx⟩ := bnd_some hx
  have hM7 := Option.some.inj hM7
  refine ev_ias hA6 15 hk rfl zb_lk_m249 (zb_sa_m249 hM7) rfl ?_
  refine ev_ls (L' := [some (.ref 247), some (.int a1)]) (st' := [.ref 247]) (pc' := 16) hk (.aload_n 0) 1 rfl rfl rfl rfl ?_
  refine ev_gf (.ref 249) 19 hk rfl rfl zb_lk_model rfl rfl ?_
  refine ev_op (st' := [.int 26, .ref 249]) (pc' := 21) hk (.bipush 26) 2 rfl rfl rfl ?_
  refine ev_ls (L' := [some (.ref 247), some (.int a1)]) (st' := [.ref 247, .int 26, .ref 249]) (pc' := 22) hk (.aload_n 0) 1 rfl rfl rfl rfl ?_
  refine ev_gf (.ref 249) 25 hk rfl rfl zb_lk_model rfl rfl ?_
  refine ev_op (st' := [.int 0, .ref 249, .int 26, .ref 249]) (pc' := 26) hk (.iconst 0) 1 rfl rfl rfl ?_
  refine ev_ial (v := ((mA M7 249) 0)) rfl 27 hk rfl zb_lk_m249 rfl ?_
  refine ev_op (st' := [.int (26 + ((mA M7 249) 0)), .ref 249]) (pc' := 28) hk (.iadd) 1 rfl rfl rfl ?_
  refine ev_op (st' := [.int 20, .int (26 + ((mA M7 249) 0)), .ref 249]) (pc' := 30) hk (.bipush 20) 2 rfl rfl rfl ?_
  obtain ⟨A8, hA8, hx⟩ := bnd_some hx
  obtain ⟨M9, hM9, hx⟩ := bnd_some hx
  have hM9 := Option.some.inj hM9
  refine ev_ias hA8 31 hk rfl zb_lk_m249 (zb_sa_m249 hM9) rfl ?_
  refine ev_ls (L' := [some (.ref 247), some (.int a1)]) (st' := [.ref 247]) (pc' := 32) hk (.aload_n 0) 1 rfl rfl rfl rfl ?_
  refine ev_gf (.ref 249) 35 hk rfl rfl zb_lk_model rfl rfl ?_
  refine ev_op (st' := [.int 0, .ref 249]) (pc' := 36) hk (.iconst 0) 1 rfl rfl rfl ?_
  refine ev_op (st' := [.int 0, .ref 249, .int 0, .ref 249]) (pc' := 37) hk (.dup2) 1 rfl rfl rfl ?_
  refine ev_ial (v := ((mA M9 249) 0)) rfl 38 hk rfl zb_lk_m249 rfl ?_
  refine ev_op (st' := [.int 1, .int ((mA M9 249) 0), .int 0, .ref 249]) (pc' := 39) hk (.iconst 1) 1 rfl rfl rfl ?_
  refine ev_op (st' := [.int (((mA M9 249) 0) + 1), .int 0, .ref 249]) (pc' := 40) hk (.iadd) 1 rfl rfl rfl ?_
  obtain ⟨M10, hM10, hx⟩ := bnd_some hx
  have hM10 := Option.some.inj hM10
  refine ev_ias (A := (upd (mA M9 249) 0 (((mA M9 249) 0) + 1))) rfl 41 hk rfl zb_lk_m249 (zb_sa_m249 hM10) rfl ?_
  cases hx
  obtain rfl := hM
  exact ev_retv hk rfl rfl
end PXQ

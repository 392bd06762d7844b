/-! THE METHODS as plain functions (laid by a program of mine out of the printed listing) -/
def fC_copyFrom (G : zG) (Go : zG) : Option zG :=
  bnd (some (wgF G 1 0 (gF Go 1 0))) fun G5 =>
  bnd (some (wgA G5 2 (va_cpy (gA Go 2) (gA G5 2) 0 0 12))) fun G6 =>
  bnd (some (wgA G6 3 (va_cpy (gA Go 3) (gA G6 3) 0 0 12))) fun G7 =>
  bnd (some (wgA G7 4 (va_cpy (gA Go 4) (gA G7 4) 0 0 12))) fun G8 =>
  some G8
def fP_copyFrom (G : zG) (Go : zG) (p0 : Nat) (p1 : Nat) : Option zG :=
  bnd (some (wgN G (7 + p0) (gN Go (7 + p1)))) fun G9 =>
  bnd (some (wgB G9 (7 + p0) (gB Go (7 + p1)))) fun G10 =>
  bnd (some (wgF G10 (7 + p0) 2 (gF Go (7 + p1) 2))) fun G11 =>
  bnd (some (wgF G11 (7 + p0) 3 (gF Go (7 + p1) 3))) fun G12 =>
  bnd (some (wgF G12 (7 + p0) 4 (gF Go (7 + p1) 4))) fun G13 =>
  bnd (some (wgF G13 (7 + p0) 5 (gF Go (7 + p1) 5))) fun G14 =>
  bnd (some (wgF G14 (7 + p0) 6 (gF Go (7 + p1) 6))) fun G15 =>
  bnd (some (wgF G15 (7 + p0) 7 (gF Go (7 + p1) 7))) fun G16 =>
  some G16
def fL_copyFrom (G : zG) (Go : zG) (p0 : Nat) (p1 : Nat) : Option zG :=
  bnd (some (wgF G (18 + p0) 0 (gF Go (18 + p1) 0))) fun G5 =>
  bnd (some (wgF G5 (18 + p0) 1 (gF Go (18 + p1) 1))) fun G6 =>
  bnd (some (wgF G6 (18 + p0) 2 (gF Go (18 + p1) 2))) fun G7 =>
  bnd (some (wgB G7 (18 + p0) (gB Go (18 + p1)))) fun G8 =>
  some G8
def fG_copyFrom_b91 (Go : zG) (G : zG) (a2 : Int32) : Option ((zG × Int32) ⊕ (zG)) :=
  if a2 < (gF G 0 6) then
    bnd (rix 8 a2) fun p20 =>
    bnd (rix 8 a2) fun p21 =>
    bnd (fL_copyFrom G Go p20 p21) fun G22 =>
    some (.inl (G22, (a2 + 1)))
  else
    some (.inr G)
def fG_copyFrom_b52 (Go : zG) (G : zG) (a2 : Int32) : Option ((zG × Int32) ⊕ (zG)) :=
  if a2 < (gF G 0 4) then
    bnd (rix 10 a2) fun p16 =>
    bnd (rix 10 a2) fun p17 =>
    bnd (fP_copyFrom G Go p16 p17) fun G18 =>
    some (.inl (G18, (a2 + 1)))
  else
    bnd (some (wgF G 0 6 (gF Go 0 6))) fun G15 =>
    Option.map .inr (iter (fun s => fG_copyFrom_b91 Go s.1 s.2) fu (G15, 0))
def fG_copyFrom (G : zG) (Go : zG) : Option zG :=
  bnd (fC_copyFrom G Go) fun G24 =>
  bnd (some (wgA G24 5 (va_cpy (gA Go 5) (gA G24 5) 0 0 9))) fun G26 =>
  bnd (some (wgF G26 0 2 (gF Go 0 2))) fun G27 =>
  bnd (some (wgF G27 0 3 (gF Go 0 3))) fun G28 =>
  bnd (some (wgF G28 0 4 (gF Go 0 4))) fun G29 =>
  iter (fun s => fG_copyFrom_b52 Go s.1 s.2) fu (G29, 0)
def fY_forget (Y : Nat → Int32) : Option ((Nat → Int32)) :=
  bnd (some (z1 Y 0 0)) fun Y2 =>
  some Y2
def fX_restoreState (Y : Nat → Int32) (Γ : Nat → zG) (D : zD) : Option ((Int32 ⊕ String) × (Nat → Int32) × (Nat → zG)) :=
  if D.1 = true then
    bnd (fG_copyFrom (Γ 10) (Γ 62)) fun G1 =>
    bnd (fY_forget Y) fun Y3 =>
    some (.inl (gF ((gup Γ 10 G1) 10) 0 2), Y3, (gup Γ 10 G1))
  else
    some (.inr "java/lang/IllegalStateException", Y, Γ)
def fw_restoreState (Y : Nat → Int32) (Γ : Nat → zG) (D : zD) (ou : Nat → Int64) (j : Nat) : Option (Int32 × (Nat → Int32) × (Nat → zG) × (Nat → Int64) × Nat) :=
  bnd3 (fX_restoreState Y Γ D) fun r8 Y2 Γ3 => Sum.elim (fun v6 =>
    bnd (some ((vp_updL ou 0 (Int32.toInt64 v6)))) fun ou7 =>
    some (0, Y2, Γ3, ou7, j)
    ) (fun E5 =>
    if E5 = "java/lang/IllegalStateException" then
      some (1, Y2, Γ3, ou, (j + 1))
    else
      none
    ) r8
def fM_truth (a0 : Bool) : Int32 :=
  if a0 = true then
    1
  else
    0
def fM_goes_j10 (M : zM) (a1 : Bool) (a0t : Bool) : Option (Bool × zM) :=
  bnd (some (wmF M 0 (fM_truth a0t))) fun M3 =>
  some (a1, M3)
def fM_goes (M : zM) (a1 : Bool) : Option (Bool × zM) :=
  if a1 = true then
    fM_goes_j10 M a1 false
  else
    fM_goes_j10 M a1 true
def fM_copiesRow_b3 (a0 : Nat) (a1 : Int32) (a2 : Nat) (a3 : Int32) (M : zM) (a4 : Int32) : Option ((zM × Int32) ⊕ (zM)) :=
  if a4 < 160 then
    bnd (rd (mlen a0) (mA M a0) (a1 + a4)) fun v7 =>
    bnd (wr (mlen a2) (mA M a2) (a3 + a4) v7) fun A8 =>
    bnd (some (wmA M a2 A8)) fun M9 =>
    some (.inl (M9, (a4 + 1)))
  else
    some (.inr M)
def fM_copiesRow (M : zM) (a0 : Nat) (a1 : Int32) (a2 : Nat) (a3 : Int32) : Option zM :=
  iter (fun s => fM_copiesRow_b3 a0 a1 a2 a3 s.1 s.2) fu (M, 0)
def fM_restoreState (M : zM) : Option (Int32 × zM) :=
  bnd2 (fM_goes M (mB M)) fun v3 M2 =>
  if v3 = true then
    bnd (fM_copiesRow M2 250 0 249 0) fun M5 =>
    bnd (some (wmF M5 18 0)) fun M7 =>
    some (((mA M7 249) 4), M7)
  else
    some (0, M2)
def fM_thrown (M : zM) : Int32 :=
  (mF M 0)
def fX_saveState (Γ : Nat → zG) (D : zD) : Option (Int32 × (Nat → zG) × zD) :=
  bnd (fG_copyFrom (Γ 62) (Γ 10)) fun G2 =>
  bnd (some ((true, D.2))) fun D4 =>
  some ((gF ((gup Γ 62 G2) 10) 0 2), (gup Γ 62 G2), D4)
def fM_saveState (M : zM) : Option (Int32 × zM) :=
  bnd (some (wmF M 0 0)) fun M3 =>
  bnd (fM_copiesRow M3 249 0 250 0) fun M4 =>
  bnd (some (wmB M4 true)) fun M6 =>
  some (((mA M6 249) 4), M6)
def fX_outputByte_j12 (D : zD) (O : Nat → Int32) : Option ((Int32 ⊕ String)) :=
  some (.inr "java/lang/IndexOutOfBoundsException")
def fX_outputByte (D : zD) (O : Nat → Int32) (a1 : Int32) : Option ((Int32 ⊕ String)) :=
  if a1 < 0 then
    fX_outputByte_j12 D O
  else
    if a1 < D.2 then
      bnd (rd 37 O a1) fun v2 =>
      some (.inl v2)
    else
      fX_outputByte_j12 D O
def fw_outputByte (D : zD) (O : Nat → Int32) (ou : Nat → Int64) (j : Nat) (a1 : Int32) : Option (Int32 × (Nat → Int64) × Nat) :=
  bnx (fX_outputByte D O a1) (fun v4 =>
    bnd (some ((vp_updL ou 0 (Int32.toInt64 v4)))) fun ou5 =>
    some (0, ou5, j)
    ) (fun E3 =>
    if E3 = "java/lang/IndexOutOfBoundsException" then
      some (1, ou, (j + 1))
    else
      none
    )
def fM_isIn (a0 : Int64) (a2 : Int64) (a4 : Int64) : Bool :=
  if a0 < a2 then
    false
  else
    if a4 < a0 then
      false
    else
      true
def fM_outputByte (M : zM) (a1 : Int32) : Option (Int32 × zM) :=
  bnd2 (fM_goes M (fM_isIn (Int32.toInt64 a1) 0 (Int32.toInt64 ((mF M 31) - 1)))) fun v3 M2 =>
  if v3 = true then
    bnd (rd 37 (mA M2 260) a1) fun v5 =>
    some (v5, M2)
  else
    some (0, M2)
def fX_isBand (a0 : Int32) : Bool :=
  if a0 < 0 then
    false
  else
    if a0 < 9 then
      true
    else
      false
def fX_needBand (a0 : Int32) : Option ((Unit ⊕ String)) :=
  if (fX_isBand a0) = true then
    some (.inl ())
  else
    some (.inr "java/lang/IllegalArgumentException")
def fC_isTorn (G : zG) (a1 : Int32) : Option Bool :=
  bnd (rd 12 (gA G 4) a1) fun v2 =>
  if v2 = 0 then
    some true
  else
    some false
def fL_meets (G : zG) (p0 : Nat) (a1 : Int32) (a2 : Int32) (a3 : Int32) : Bool :=
  if (gB G (18 + p0)) = true then
    false
  else
    if (gF G (18 + p0) 0) = a1 then
      if a3 < (gF G (18 + p0) 1) then
        false
      else
        if (gF G (18 + p0) 2) < a2 then
          false
        else
          true
    else
      false
def fG_labelMeeting_b3 (G : zG) (a1 : Int32) (a2 : Int32) (a3 : Int32) (a4 : Int32) : Option ((Int32) ⊕ (Int32)) :=
  if a4 < (gF G 0 6) then
    bnd (rix 8 a4) fun p3 =>
    if (fL_meets G p3 a1 a2 a3) = true then
      some (.inr a4)
    else
      some (.inl (a4 + 1))
  else
    some (.inr (-1))
def fG_labelMeeting (G : zG) (a1 : Int32) (a2 : Int32) (a3 : Int32) : Option Int32 :=
  iter (fun s => fG_labelMeeting_b3 G a1 a2 a3 s) fu 0
def fG_pictureOf_b29 (G : zG) (a1 : Int32) (a2 : Int32) (a3 : Int32) (a4 : Bool) (a5 : Int32) : Option ((Bool × Int32) ⊕ (Int32)) :=
  if a5 < (gF G 1 0) then
    bnd (rd 12 (gA G 3) a5) fun v7 =>
    if v7 < a2 then
      some (.inl (a4, (a5 + 1)))
    else
      bnd (rd 12 (gA G 3) a5) fun v8 =>
      if a3 < v8 then
        some (.inl (a4, (a5 + 1)))
      else
        bnd (fC_isTorn G a5) fun v9 =>
        if v9 = true then
          some (.inr 120)
        else
          some (.inl (true, (a5 + 1)))
  else
    if a4 = true then
      some (.inr 43)
    else
      bnd (fG_labelMeeting G a1 a2 a3) fun v5 =>
      if v5 = (-1) then
        some (.inr 46)
      else
        some (.inr 97)
def fG_pictureOf_j23 (G : zG) (a1 : Int32) (a2 : Int32) (a3 : Int32) : Option Int32 :=
  iter (fun s => fG_pictureOf_b29 G a1 a2 a3 s.1 s.2) fu (false, 0)
def fG_pictureOf (G : zG) (a1 : Int32) (a2 : Int32) (a3 : Int32) : Option Int32 :=
  bnd (rd 9 (gA G 5) a1) fun v11 =>
  if v11 < a2 then
    fG_pictureOf_j23 G a1 a2 a3
  else
    bnd (rd 9 (gA G 5) a1) fun v12 =>
    if a3 < v12 then
      fG_pictureOf_j23 G a1 a2 a3
    else
      some 72
def fX_printBand_b6 (Γ : Nat → zG) (D : zD) (a1 : Int32) (O : Nat → Int32) (a2 : Int32) : Option (((Nat → Int32) × Int32) ⊕ ((Int32 ⊕ String) × zD × (Nat → Int32))) :=
  if a2 < 36 then
    bnd (fG_pictureOf (Γ 10) a1 (a2 * 10) (((a2 * 10) + 10) - 1)) fun v10 =>
    bnd (wrb 37 O a2 (Int8.toInt32 (Int32.toInt8 v10))) fun A12 =>
    bnd (some (A12)) fun O13 =>
    some (.inl (O13, (a2 + 1)))
  else
    bnd (some ((upd O 36 (vp_nar .byte 10)))) fun O8 =>
    bnd (some ((D.1, 37))) fun D9 =>
    some (.inr (.inl D9.2, D9, O8))
def fX_printBand (Γ : Nat → zG) (D : zD) (O : Nat → Int32) (a1 : Int32) : Option ((Int32 ⊕ String) × zD × (Nat → Int32)) :=
  bnx (fX_needBand a1) (fun _ =>
    iter (fun s => fX_printBand_b6 Γ D a1 s.1 s.2) fu (O, 0)
    ) (fun E15 =>
    some (.inr E15, D, O)
    )
def fw_printBand (Γ : Nat → zG) (D : zD) (O : Nat → Int32) (ou : Nat → Int64) (j : Nat) (a1 : Int32) : Option (Int32 × zD × (Nat → Int32) × (Nat → Int64) × Nat) :=
  bnd3 (fX_printBand Γ D O a1) fun r8 D2 O3 => Sum.elim (fun v6 =>
    bnd (some ((vp_updL ou 0 (Int32.toInt64 v6)))) fun ou7 =>
    some (0, D2, O3, ou7, j)
    ) (fun E5 =>
    if E5 = "java/lang/IllegalArgumentException" then
      some (1, D2, O3, ou, (j + 1))
    else
      none
    ) r8
def fM_isBand (a0 : Int32) : Bool :=
  (fM_isIn (Int32.toInt64 a0) 0 8)
def fM_lbl (a0 : Int32) : Int32 :=
  (128 + (4 * a0))
def fM_its (M : zM) (a1 : Int32) (a2 : Int32) : Option Int32 :=
  bnd (rd 160 (mA M 249) ((fM_lbl a1) + a2)) fun v2 =>
  some v2
def fM_isThere (M : zM) (a1 : Int32) (a2 : Int32) : Option Bool :=
  bnd (fM_its M a1 3) fun v1 =>
  if v1 = 0 then
    bnd (fM_its M a1 0) fun v3 =>
    if v3 = a2 then
      some true
    else
      some false
  else
    some false
def fM_lastOf (M : zM) (a1 : Int32) : Option Int32 :=
  bnd (fM_its M a1 1) fun v1 =>
  bnd (fM_its M a1 2) fun v3 =>
  some ((v1 + v3) - 1)
def fM_covers (M : zM) (a1 : Int32) (a2 : Int32) (a3 : Int32) : Option Bool :=
  bnd (fM_isThere M a1 a2) fun v1 =>
  if v1 = true then
    bnd (fM_its M a1 1) fun v3 =>
    bnd (fM_lastOf M a1) fun v5 =>
    if (fM_isIn (Int32.toInt64 a3) (Int32.toInt64 v3) (Int32.toInt64 v5)) = true then
      some true
    else
      some false
  else
    some false
def fM_labelOn_b2 (M : zM) (a1 : Int32) (a2 : Int32) (a3 : Int32) : Option ((Int32) ⊕ (Int32)) :=
  if a3 < ((mA M 249) 2) then
    bnd (fM_covers M a3 a1 a2) fun v1 =>
    if v1 = true then
      some (.inr a3)
    else
      some (.inl (a3 + 1))
  else
    some (.inr (-1))
def fM_labelOn (M : zM) (a1 : Int32) (a2 : Int32) : Option Int32 :=
  iter (fun s => fM_labelOn_b2 M a1 a2 s) fu 0
def fM_seamAt_b4 (M : zM) (a1 : Int32) (a2 : Int32) (a3 : Int32) : Option ((Int32 × Int32) ⊕ (Int32)) :=
  if a3 < ((mA M 249) 0) then
    if a2 = a1 then
      some (.inr a3)
    else
      bnd (rd 160 (mA M 249) (14 + a3)) fun v3 =>
      some (.inl ((a2 + v3), (a3 + 1)))
  else
    some (.inr (-1))
def fM_seamAt (M : zM) (a1 : Int32) : Option Int32 :=
  iter (fun s => fM_seamAt_b4 M a1 s.1 s.2) fu (0, 0)
def fM_isTornSeam (M : zM) (a1 : Int32) : Option Bool :=
  bnd (rd 160 (mA M 249) (26 + a1)) fun v2 =>
  if v2 = 0 then
    some true
  else
    some false
def fM_isTornAt (M : zM) (a1 : Int32) : Option Bool :=
  bnd (fM_seamAt M a1) fun v1 =>
  if v1 = (-1) then
    some false
  else
    bnd (fM_isTornSeam M v1) fun v3 =>
    if v3 = true then
      some true
    else
      some false
def fM_byteOf_j35 (M : zM) (a1 : Int32) (a2 : Int32) (a3 : Int32) (a4 : Int32) : Option ((Int32 × Int32) ⊕ (Int32)) :=
  bnd (fM_seamAt M a4) fun v3 =>
  if v3 = (-1) then
    some (.inl (a3, (a4 + 1)))
  else
    if a3 = 120 then
      some (.inl (a3, (a4 + 1)))
    else
      bnd (fM_isTornAt M a4) fun v5 =>
      if v5 = true then
        some (.inl (120, (a4 + 1)))
      else
        some (.inl (43, (a4 + 1)))
def fM_byteOf_b6 (M : zM) (a1 : Int32) (a2 : Int32) (a3 : Int32) (a4 : Int32) : Option ((Int32 × Int32) ⊕ (Int32)) :=
  if a4 < (a2 + 10) then
    if a3 = 46 then
      bnd (fM_labelOn M a1 a4) fun v8 =>
      if v8 = (-1) then
        fM_byteOf_j35 M a1 a2 a3 a4
      else
        fM_byteOf_j35 M a1 a2 97 a4
    else
      fM_byteOf_j35 M a1 a2 a3 a4
  else
    bnd (rd 160 (mA M 249) (5 + a1)) fun v7 =>
    if (fM_isIn (Int32.toInt64 v7) (Int32.toInt64 a2) (Int32.toInt64 (a2 + 9))) = true then
      some (.inr 72)
    else
      some (.inr a3)
def fM_byteOf (M : zM) (a1 : Int32) (a2 : Int32) : Option Int32 :=
  iter (fun s => fM_byteOf_b6 M a1 a2 s.1 s.2) fu (46, a2)
def fM_printBand_b15 (a1 : Int32) (M : zM) (a2 : Int32) : Option ((zM × Int32) ⊕ (Int32 × zM)) :=
  if a2 < 36 then
    bnd (fM_byteOf M a1 (10 * a2)) fun v10 =>
    bnd (wr 37 (mA M 260) a2 v10) fun A12 =>
    bnd (some (wmA M 260 A12)) fun M13 =>
    some (.inl (M13, (a2 + 1)))
  else
    bnd (some (wmA M 260 (upd (mA M 260) 36 10))) fun M8 =>
    bnd (some (wmF M8 31 37)) fun M9 =>
    some (.inr ((mF M9 31), M9))
def fM_printBand (M : zM) (a1 : Int32) : Option (Int32 × zM) :=
  bnd2 (fM_goes M (fM_isBand a1)) fun v15 M14 =>
  if v15 = true then
    iter (fun s => fM_printBand_b15 a1 s.1 s.2) fu (M14, 0)
  else
    some (0, M14)
def fY_recall (Y : Nat → Int32) (Γ : Nat → zG) (g : Nat) : Option ((Nat → Int32) × (Nat → zG)) :=
  bnd (rix 6 (Y 1)) fun p4 =>
  bnd (fG_copyFrom (Γ g) (Γ (90 + 26 * p4))) fun G5 =>
  bnd (some (z1 Y 1 ((((Y 1) + 6) - 1) - (((Y 1) + 6) - 1) / 6 * 6))) fun Y7 =>
  bnd (some (z1 Y7 0 ((Y7 0) - 1))) fun Y8 =>
  some (Y8, (gup Γ g G5))
def fX_undo (Y : Nat → Int32) (Γ : Nat → zG) : Option ((Int32 ⊕ String) × (Nat → Int32) × (Nat → zG)) :=
  if (Y 0) = 0 then
    some (.inr "java/lang/IllegalStateException", Y, Γ)
  else
    bnd2 (fY_recall Y Γ 10) fun Y1 Γ2 =>
    some (.inl (Y1 0), Y1, Γ2)
def fw_undo (Y : Nat → Int32) (Γ : Nat → zG) (ou : Nat → Int64) (j : Nat) : Option (Int32 × (Nat → Int32) × (Nat → zG) × (Nat → Int64) × Nat) :=
  bnd3 (fX_undo Y Γ) fun r8 Y2 Γ3 => Sum.elim (fun v6 =>
    bnd (some ((vp_updL ou 0 (Int32.toInt64 v6)))) fun ou7 =>
    some (0, Y2, Γ3, ou7, j)
    ) (fun E5 =>
    if E5 = "java/lang/IllegalStateException" then
      some (1, Y2, Γ3, ou, (j + 1))
    else
      none
    ) r8
def fM_undo_j13 (M : zM) (a0t : Bool) : Option (Int32 × zM) :=
  bnd2 (fM_goes M a0t) fun v4 M3 =>
  if v4 = true then
    bnd (some (wmF M3 18 ((mF M3 18) - 1))) fun M6 =>
    bnd (fM_copiesRow M6 253 (160 * (mF M6 18)) 249 0) fun M7 =>
    some ((mF M7 18), M7)
  else
    some (0, M3)
def fM_undo (M : zM) : Option (Int32 × zM) :=
  if 0 < (mF M 18) then
    fM_undo_j13 M true
  else
    fM_undo_j13 M false
def fG_passRefusal (a0 : Int32) : Int32 :=
  if a0 < 1 then
    2
  else
    if 240 < a0 then
      2
    else
      0
def fX_refuse (a0 : Int32) : Option ((Unit ⊕ String)) :=
  if a0 = 1 then
    some (.inr "java/lang/IndexOutOfBoundsException")
  else
    if a0 = 2 then
      some (.inr "java/lang/IllegalArgumentException")
    else
      if a0 = 3 then
        some (.inr "java/lang/IllegalStateException")
      else
        some (.inl ())
def fJ_min_7cf53 (a0 : Int32) (a1 : Int32) : Int32 :=
  if a1 < a0 then
    a1
  else
    a0
def fY_remember (Y : Nat → Int32) (Γ : Nat → zG) (g : Nat) : Option ((Nat → Int32) × (Nat → zG)) :=
  bnd (some (z1 Y 1 (((Y 1) + 1) - ((Y 1) + 1) / 6 * 6))) fun Y4 =>
  bnd (rix 6 (Y4 1)) fun p5 =>
  bnd (fG_copyFrom (Γ (90 + 26 * p5)) (Γ g)) fun G6 =>
  bnd (some (z1 Y4 0 (fJ_min_7cf53 ((Y4 0) + 1) 6))) fun Y8 =>
  some (Y8, (gup Γ (90 + 26 * p5) G6))
def fG_longitudeIn (G : zG) (a1 : Int32) (a2 : Int32) : Option Int32 :=
  bnd (rd 9 (gA G 5) a1) fun v2 =>
  if a2 < v2 then
    some a2
  else
    some (a2 - 360)
def fJ_floorDiv_7cf53 (a0 : Int32) (a1 : Int32) : Option Int32 :=
  bnd (zdiv a0 a1) fun v2 =>
  if (a0 ^^^ a1) < 0 then
    if (v2 * a1) = a0 then
      some v2
    else
      some (v2 - 1)
  else
    some v2
def fG_localHours (G : zG) (a1 : Int32) (a2 : Int32) : Option Int32 :=
  bnd (fG_longitudeIn G a1 a2) fun v1 =>
  bnd (fJ_floorDiv_7cf53 v1 15) fun v3 =>
  some ((gF G 0 2) + v3)
def fJ_floorMod_7cf53 (a0 : Int32) (a1 : Int32) : Option Int32 :=
  bnd (zrem a0 a1) fun v2 =>
  if (a0 ^^^ a1) < 0 then
    if v2 = 0 then
      some v2
    else
      some (v2 + a1)
  else
    some v2
def fG_localHour (G : zG) (a1 : Int32) (a2 : Int32) : Option Int32 :=
  bnd (fG_localHours G a1 a2) fun v1 =>
  bnd (fJ_floorMod_7cf53 v1 24) fun v3 =>
  some v3
def fG_turnDiaries_b2 (G : zG) (a1 : Int32) : Option ((zG × Int32) ⊕ (zG)) :=
  if a1 < (gF G 0 4) then
    bnd (rix 10 a1) fun p5 =>
    if (gB G (7 + p5)) = true then
      bnd (fG_localHour G (gF G (7 + p5) 2) (gF G (7 + p5) 3)) fun v6 =>
      if v6 = 0 then
        bnd (some (wgF G (7 + p5) 4 ((gF G (7 + p5) 4) + 1))) fun G8 =>
        some (.inl (G8, (a1 + 1)))
      else
        some (.inl (G, (a1 + 1)))
    else
      some (.inl (G, (a1 + 1)))
  else
    some (.inr G)
def fG_turnDiaries (G : zG) : Option zG :=
  iter (fun s => fG_turnDiaries_b2 s.1 s.2) fu (G, 0)
def fG_meridianBeside_j12 (a0t : Int32) (a1t : Int32) : Int32 :=
  ((a1t + a0t) - (a1t + a0t) / 360 * 360)
def fG_meridianBeside (a0 : Int32) (a1 : Int32) : Int32 :=
  if a1 = 0 then
    fG_meridianBeside_j12 1 a0
  else
    fG_meridianBeside_j12 359 a0
def fC_isTornAt_b2 (G : zG) (a1 : Int32) (a2 : Int32) : Option ((Int32) ⊕ (Bool)) :=
  if a2 < (gF G 1 0) then
    bnd (rd 12 (gA G 3) a2) fun v3 =>
    if v3 = a1 then
      bnd (rd 12 (gA G 4) a2) fun v4 =>
      if v4 = 0 then
        some (.inr true)
      else
        some (.inl (a2 + 1))
    else
      some (.inl (a2 + 1))
  else
    some (.inr false)
def fC_isTornAt (G : zG) (a1 : Int32) : Option Bool :=
  iter (fun s => fC_isTornAt_b2 G a1 s) fu 0
def fG_stepHindrance_j28 (G : zG) (a0t : Int32) : Option Int32 :=
  bnd (fC_isTornAt G a0t) fun v1 =>
  if v1 = true then
    some 2
  else
    some 0
def fG_stepHindrance (G : zG) (p1 : Nat) (a2 : Int32) : Option Int32 :=
  if (gB G (7 + p1)) = true then
    if a2 = 0 then
      fG_stepHindrance_j28 G (fG_meridianBeside (gF G (7 + p1) 3) 0)
    else
      fG_stepHindrance_j28 G (gF G (7 + p1) 3)
  else
    some 1
def fG_makeStep_j181 (G : zG) (p1 : Nat) (a4 : Int32) : Option zG :=
  bnd (some (wgF G (7 + p1) 3 a4)) fun G17 =>
  some G17
def fG_makeStep_j116 (G : zG) (p1 : Nat) (a4 : Int32) (a0t : Bool) (a1t : Int32) (p2t : Nat) : Option zG :=
  bnd (some (wgF G (7 + p2t) 7 (a1t + (b2i a0t)))) fun G14 =>
  fG_makeStep_j181 G14 p1 a4
def fG_makeStep_j94 (G : zG) (p1 : Nat) (a4 : Int32) (a7 : Int32) (a0t : Bool) (a1t : Bool) (a2t : Int32) (p3t : Nat) : Option zG :=
  bnd (some (wgF G (7 + p3t) 4 (a2t + ((b2i a1t) - (b2i a0t))))) fun G13 =>
  if a4 = a7 then
    fG_makeStep_j116 G13 p1 a4 true (gF G13 (7 + p1) 7) p1
  else
    fG_makeStep_j116 G13 p1 a4 false (gF G13 (7 + p1) 7) p1
def fG_makeStep_j82 (G : zG) (p1 : Nat) (a4 : Int32) (a7 : Int32) (a0t : Bool) (a1t : Int32) (p2t : Nat) : Option zG :=
  if a4 = a7 then
    fG_makeStep_j94 G p1 a4 a7 true a0t a1t p2t
  else
    fG_makeStep_j94 G p1 a4 a7 false a0t a1t p2t
def fG_makeStep_j81 (G : zG) (p1 : Nat) (a4 : Int32) (a7 : Int32) (a0t : Int32) (p1t : Nat) : Option zG :=
  fG_makeStep_j82 G p1 a4 a7 false a0t p1t
def fG_makeStep_j177 (G : zG) (p1 : Nat) (a4 : Int32) (a0t : Bool) (a1t : Int32) (p2t : Nat) : Option zG :=
  bnd (some (wgF G (7 + p2t) 7 (a1t + (b2i a0t)))) fun G16 =>
  fG_makeStep_j181 G16 p1 a4
def fG_makeStep_j156 (G : zG) (p1 : Nat) (a3 : Int32) (a4 : Int32) (a7 : Int32) (a0t : Bool) (a1t : Bool) (a2t : Int32) (p3t : Nat) : Option zG :=
  bnd (some (wgF G (7 + p3t) 4 (a2t + ((b2i a1t) - (b2i a0t))))) fun G15 =>
  if a3 = a7 then
    fG_makeStep_j177 G15 p1 a4 true (gF G15 (7 + p1) 7) p1
  else
    fG_makeStep_j177 G15 p1 a4 false (gF G15 (7 + p1) 7) p1
def fG_makeStep_j155 (G : zG) (p1 : Nat) (a3 : Int32) (a4 : Int32) (a7 : Int32) (a0t : Bool) (a1t : Int32) (p2t : Nat) : Option zG :=
  fG_makeStep_j156 G p1 a3 a4 a7 false a0t a1t p2t
def fG_makeStep_j139 (G : zG) (p1 : Nat) (a3 : Int32) (a4 : Int32) (a5 : Int32) (a6 : Int32) (a7 : Int32) (a0t : Bool) (a1t : Int32) (p2t : Nat) : Option zG :=
  if a5 = 0 then
    if a6 = 23 then
      fG_makeStep_j156 G p1 a3 a4 a7 true a0t a1t p2t
    else
      fG_makeStep_j155 G p1 a3 a4 a7 a0t a1t p2t
  else
    fG_makeStep_j155 G p1 a3 a4 a7 a0t a1t p2t
def fG_makeStep (G : zG) (p1 : Nat) (a2 : Int32) : Option zG :=
  bnd (fG_localHours G (gF G (7 + p1) 2) (gF G (7 + p1) 3)) fun v18 =>
  bnd (fJ_floorMod_7cf53 v18 24) fun v20 =>
  bnd (fG_localHours G (gF G (7 + p1) 2) (fG_meridianBeside (gF G (7 + p1) 3) a2)) fun v22 =>
  bnd (fJ_floorMod_7cf53 v22 24) fun v24 =>
  bnd (rd 9 (gA G 5) (gF G (7 + p1) 2)) fun v26 =>
  if a2 = 0 then
    if v20 = 23 then
      if v24 = 0 then
        fG_makeStep_j82 G p1 (fG_meridianBeside (gF G (7 + p1) 3) a2) v26 true (gF G (7 + p1) 4) p1
      else
        fG_makeStep_j81 G p1 (fG_meridianBeside (gF G (7 + p1) 3) a2) v26 (gF G (7 + p1) 4) p1
    else
      fG_makeStep_j81 G p1 (fG_meridianBeside (gF G (7 + p1) 3) a2) v26 (gF G (7 + p1) 4) p1
  else
    if (gF G (7 + p1) 3) = v26 then
      fG_makeStep_j139 G p1 (gF G (7 + p1) 3) (fG_meridianBeside (gF G (7 + p1) 3) a2) v20 v24 v26 true (gF G (7 + p1) 4) p1
    else
      fG_makeStep_j139 G p1 (gF G (7 + p1) 3) (fG_meridianBeside (gF G (7 + p1) 3) a2) v20 v24 v26 false (gF G (7 + p1) 4) p1
def fG_walkAll_b19 (a1 : Int32) (p2 : Nat) (G : zG) (a3 : Int32) : Option ((zG × Int32) ⊕ ((zG × Int32) ⊕ (zG))) :=
  if a3 < 10 then
    if 0 < (gF G (7 + p2) 6) then
      bnd (fG_stepHindrance G p2 (gF G (7 + p2) 5)) fun v10 =>
      if v10 = 0 then
        bnd (fG_makeStep G p2 (gF G (7 + p2) 5)) fun G13 =>
        bnd (some (wgF G13 (7 + p2) 6 ((gF G13 (7 + p2) 6) - 1))) fun G15 =>
        some (.inl (G15, (a3 + 1)))
      else
        bnd (some (wgF G (7 + p2) 6 0)) fun G12 =>
        some (.inl (G12, (a3 + 1)))
    else
      some (.inr (.inl (G, (a1 + 1))))
  else
    some (.inr (.inl (G, (a1 + 1))))
def fG_walkAll_b2 (G : zG) (a1 : Int32) : Option ((zG × Int32) ⊕ (zG)) :=
  if a1 < (gF G 0 4) then
    bnd (rix 10 a1) fun p9 =>
    iter (fun s => fG_walkAll_b19 a1 p9 s.1 s.2) fu (G, 0)
  else
    some (.inr G)
def fG_walkAll (G : zG) : Option zG :=
  iter (fun s => fG_walkAll_b2 s.1 s.2) fu (G, 0)
def fG_isWearing (a0 : Int32) : Bool :=
  if (a0 - a0 / 6 * 6) = 0 then
    true
  else
    false
def fC_strain_j63 (G : zG) (a1 : Int32) (a2 : Int32) (a0t : Bool) (a1t : Bool) : Option Int32 :=
  bnd (rd 12 (gA G 2) a2) fun v14 =>
  bnd (rd 12 (gA G 2) a1) fun v15 =>
  some (((v14 + v15) / 60) + ((b2i a1t) + (b2i a0t)))
def fC_strain_j49 (G : zG) (a1 : Int32) (a2 : Int32) (a3 : Int32) (a0t : Bool) : Option Int32 :=
  bnd (rd 12 (gA G 4) a3) fun v13 =>
  if v13 = 0 then
    fC_strain_j63 G a1 a2 true a0t
  else
    fC_strain_j63 G a1 a2 false a0t
def fC_strain_j34 (G : zG) (a1 : Int32) (a2 : Int32) (a0t : Int32) : Option Int32 :=
  bnd (rd 12 (gA G 4) a2) fun v12 =>
  if v12 = 0 then
    fC_strain_j49 G a1 a2 a0t true
  else
    fC_strain_j49 G a1 a2 a0t false
def fC_strain_j16 (G : zG) (a1 : Int32) (a0t : Int32) : Option Int32 :=
  if a1 = ((gF G 1 0) - 1) then
    fC_strain_j34 G a1 a0t 0
  else
    fC_strain_j34 G a1 a0t (a1 + 1)
def fC_strain (G : zG) (a1 : Int32) : Option Int32 :=
  if a1 = 0 then
    fC_strain_j16 G a1 ((gF G 1 0) - 1)
  else
    fC_strain_j16 G a1 (a1 - 1)
def fJ_max_7cf53 (a0 : Int32) (a1 : Int32) : Int32 :=
  if a0 < a1 then
    a1
  else
    a0
def fC_wear (G : zG) (a1 : Int32) : Option (Bool × zG) :=
  bnd (rd 12 (gA G 4) a1) fun v6 =>
  if v6 = 0 then
    some (false, G)
  else
    bnd (rd 12 (gA G 4) a1) fun v7 =>
    bnd (fC_strain G a1) fun v8 =>
    bnd (wr 12 (gA G 4) a1 (fJ_max_7cf53 0 (v7 - v8))) fun A10 =>
    bnd (some (wgA G 4 A10)) fun G11 =>
    bnd (rd 12 (gA G11 4) a1) fun v12 =>
    if v12 = 0 then
      some (true, G11)
    else
      some (false, G11)
def fL_crosses (G : zG) (p0 : Nat) (a1 : Int32) : Bool :=
  if (gB G (18 + p0)) = true then
    false
  else
    if (gF G (18 + p0) 1) < a1 then
      if (gF G (18 + p0) 2) < a1 then
        false
      else
        true
    else
      false
def fG_tearLabels_b4 (a1 : Int32) (G : zG) (a2 : Int32) (a3 : Int32) : Option ((zG × Int32 × Int32) ⊕ (Int32 × zG)) :=
  if a3 < (gF G 0 6) then
    bnd (rix 8 a3) fun p7 =>
    if (fL_crosses G p7 a1) = true then
      bnd (rix 8 a3) fun p8 =>
      bnd (some (wgB G (18 + p8) true)) fun G9 =>
      some (.inl (G9, (a2 + 1), (a3 + 1)))
    else
      some (.inl (G, a2, (a3 + 1)))
  else
    some (.inr (a2, G))
def fG_tearLabels (G : zG) (a1 : Int32) : Option (Int32 × zG) :=
  iter (fun s => fG_tearLabels_b4 a1 s.1 s.2.1 s.2.2) fu (G, 0, 0)
def fG_wearSeams_b4 (G : zG) (a1 : Int32) (a2 : Int32) : Option ((zG × Int32 × Int32) ⊕ (Int32 × zG)) :=
  if a2 < (gF G 1 0) then
    bnd2 (fC_wear G a2) fun v3 G2 =>
    if v3 = true then
      bnd (rd 12 (gA G2 3) a2) fun v5 =>
      bnd2 (fG_tearLabels G2 v5) fun v7 G6 =>
      some (.inl (G6, (a1 + 1), (a2 + 1)))
    else
      some (.inl (G2, a1, (a2 + 1)))
  else
    some (.inr (a1, G))
def fG_wearSeams (G : zG) : Option (Int32 × zG) :=
  iter (fun s => fG_wearSeams_b4 s.1 s.2.1 s.2.2) fu (G, 0, 0)
def fG_letPass_b4 (a1 : Int32) (G : zG) (a2 : Int32) (a3 : Int32) : Option ((zG × Int32 × Int32) ⊕ (Int32 × zG)) :=
  if a3 < a1 then
    bnd (some (wgF G 0 2 ((gF G 0 2) + 1))) fun G3 =>
    bnd (fG_turnDiaries G3) fun G4 =>
    bnd (fG_walkAll G4) fun G6 =>
    if (fG_isWearing (gF G6 0 2)) = true then
      bnd2 (fG_wearSeams G6) fun v9 G8 =>
      some (.inl (G8, (a2 + v9), (a3 + 1)))
    else
      some (.inl (G6, a2, (a3 + 1)))
  else
    some (.inr (a2, G))
def fG_letPass (G : zG) (a1 : Int32) : Option (Int32 × zG) :=
  iter (fun s => fG_letPass_b4 a1 s.1 s.2.1 s.2.2) fu (G, 0, 0)
def fX_pass (Y : Nat → Int32) (Γ : Nat → zG) (a1 : Int32) : Option ((Int32 ⊕ String) × (Nat → Int32) × (Nat → zG)) :=
  bnx (fX_refuse (fG_passRefusal a1)) (fun _ =>
    bnd2 (fY_remember Y Γ 10) fun Y4 Γ5 =>
    bnd2 (fG_letPass (Γ5 10) a1) fun v8 G7 =>
    some (.inl v8, Y4, (gup Γ5 10 G7))
    ) (fun E2 =>
    some (.inr E2, Y, Γ)
    )
def fw_pass (Y : Nat → Int32) (Γ : Nat → zG) (ou : Nat → Int64) (j : Nat) (a1 : Int32) : Option (Int32 × (Nat → Int32) × (Nat → zG) × (Nat → Int64) × Nat) :=
  bnd3 (fX_pass Y Γ a1) fun r8 Y2 Γ3 => Sum.elim (fun v6 =>
    bnd (some ((vp_updL ou 0 (Int32.toInt64 v6)))) fun ou7 =>
    some (0, Y2, Γ3, ou7, j)
    ) (fun E5 =>
    if E5 = "java/lang/IllegalArgumentException" then
      some (1, Y2, Γ3, ou, (j + 1))
    else
      none
    ) r8
def fM_areHours (a0 : Int32) : Bool :=
  (fM_isIn (Int32.toInt64 a0) 1 240)
def fM_laysAside (M : zM) : Option zM :=
  bnd (fM_copiesRow M 249 0 251 0) fun M1 =>
  some M1
def fM_spt (a0 : Int32) : Int32 :=
  (38 + (9 * a0))
def fM_of (M : zM) (a1 : Int32) (a2 : Int32) : Option Int32 :=
  bnd (rd 160 (mA M 249) ((fM_spt a1) + a2)) fun v2 =>
  some v2
def fM_travels (M : zM) (a1 : Int32) : Option Bool :=
  bnd (fM_of M a1 2) fun v1 =>
  if v1 = 1 then
    some true
  else
    some false
def fM_longitudeOf (M : zM) (a1 : Int32) (a2 : Int32) : Option Int32 :=
  bnd (rd 160 (mA M 249) (5 + a1)) fun v2 =>
  if a2 < v2 then
    some a2
  else
    some (a2 - 360)
def fM_floored (a0 : Int32) (a1 : Int32) : Option Int32 :=
  if a0 < 0 then
    bnd (zdiv ((a1 - 1) - a0) a1) fun v3 =>
    some (-v3)
  else
    bnd (zdiv a0 a1) fun v4 =>
    some v4
def fM_localHours (M : zM) (a1 : Int32) (a2 : Int32) : Option Int32 :=
  bnd (fM_longitudeOf M a1 a2) fun v1 =>
  bnd (fM_floored v1 15) fun v3 =>
  some (((mA M 249) 4) + v3)
def fM_localDay (M : zM) (a1 : Int32) (a2 : Int32) : Option Int32 :=
  bnd (fM_localHours M a1 a2) fun v1 =>
  bnd (fM_floored v1 24) fun v3 =>
  some v3
def fM_localHour (M : zM) (a1 : Int32) (a2 : Int32) : Option Int32 :=
  bnd (fM_localHours M a1 a2) fun v1 =>
  bnd (fM_localDay M a1 a2) fun v3 =>
  some (v1 - (24 * v3))
def fM_hourNow (M : zM) (a1 : Int32) : Option Int32 :=
  bnd (fM_of M a1 3) fun v1 =>
  bnd (fM_of M a1 4) fun v3 =>
  bnd (fM_localHour M v1 v3) fun v5 =>
  some v5
def fM_east (a0 : Int32) : Int32 :=
  ((a0 + 1) - (a0 + 1) / 360 * 360)
def fM_stepWhy_j32 (M : zM) (a0t : Int32) : Option Int32 :=
  bnd (fM_isTornAt M a0t) fun v1 =>
  if v1 = true then
    some 2
  else
    some 0
def fM_stepWhy (M : zM) (a1 : Int32) (a2 : Int32) : Option Int32 :=
  bnd (fM_travels M a1) fun v3 =>
  if v3 = true then
    if a2 = 0 then
      bnd (fM_of M a1 4) fun v7 =>
      fM_stepWhy_j32 M (fM_east v7)
    else
      bnd (fM_of M a1 4) fun v5 =>
      fM_stepWhy_j32 M v5
  else
    some 1
def fM_west (a0 : Int32) : Int32 :=
  (((a0 + 360) - 1) - ((a0 + 360) - 1) / 360 * 360)
def fM_steps_j192 (M : zM) (a1 : Int32) : Option (Int32 × zM) :=
  bnd (fM_of M a1 4) fun v39 =>
  some (v39, M)
def fM_steps_j141 (M : zM) (a1 : Int32) (a8 : Bool) (a0t : Bool) (a1t : Int32) (a2t : Int32) : Option (Int32 × zM) :=
  bnd (wr 160 (mA M 249) a2t (a1t + ((fM_truth a0t) - (fM_truth a8)))) fun A35 =>
  bnd (some (wmA M 249 A35)) fun M36 =>
  fM_steps_j192 M36 a1
def fM_steps_j140 (M : zM) (a1 : Int32) (a8 : Bool) (a0t : Int32) (a1t : Int32) : Option (Int32 × zM) :=
  fM_steps_j141 M a1 a8 false a0t a1t
def fM_steps_j186 (M : zM) (a1 : Int32) (a0t : Bool) (a1t : Int32) (a2t : Int32) (a3t : Int32) : Option (Int32 × zM) :=
  bnd (wr 160 (mA M 249) a3t (a2t + (a1t - (fM_truth a0t)))) fun A37 =>
  bnd (some (wmA M 249 A37)) fun M38 =>
  fM_steps_j192 M38 a1
def fM_steps_j185 (M : zM) (a1 : Int32) (a0t : Int32) (a1t : Int32) (a2t : Int32) : Option (Int32 × zM) :=
  fM_steps_j186 M a1 false a0t a1t a2t
def fM_steps_j92 (M : zM) (a1 : Int32) (a2 : Int32) (a3 : Int32) (a6 : Int32) (a7 : Int32) (a0t : Bool) : Option (Int32 × zM) :=
  bnd (rd 160 (mA M 249) (a3 + 8)) fun v30 =>
  bnd (wr 160 (mA M 249) (a3 + 8) (v30 + (fM_truth a0t))) fun A31 =>
  bnd (some (wmA M 249 A31)) fun M32 =>
  if a2 = 0 then
    bnd (rd 160 (mA M32 249) (a3 + 5)) fun v34 =>
    if a6 = 23 then
      if a7 = 0 then
        fM_steps_j141 M32 a1 a0t true v34 (a3 + 5)
      else
        fM_steps_j140 M32 a1 a0t v34 (a3 + 5)
    else
      fM_steps_j140 M32 a1 a0t v34 (a3 + 5)
  else
    bnd (rd 160 (mA M32 249) (a3 + 5)) fun v33 =>
    if a6 = 0 then
      if a7 = 23 then
        fM_steps_j186 M32 a1 true (fM_truth a0t) v33 (a3 + 5)
      else
        fM_steps_j185 M32 a1 (fM_truth a0t) v33 (a3 + 5)
    else
      fM_steps_j185 M32 a1 (fM_truth a0t) v33 (a3 + 5)
def fM_steps_j84 (M : zM) (a1 : Int32) (a2 : Int32) (a3 : Int32) (a6 : Int32) (a7 : Int32) (a0t : Int32) (a1t : Int32) : Option (Int32 × zM) :=
  if a1t = a0t then
    fM_steps_j92 M a1 a2 a3 a6 a7 true
  else
    fM_steps_j92 M a1 a2 a3 a6 a7 false
def fM_steps_j59 (M : zM) (a1 : Int32) (a2 : Int32) (a3 : Int32) (a4 : Int32) (a5 : Int32) (a6 : Int32) (a0t : Int32) (a1t : Int32) : Option (Int32 × zM) :=
  bnd (wr 160 (mA M 249) a1t a0t) fun A24 =>
  bnd (some (wmA M 249 A24)) fun M25 =>
  bnd (fM_hourNow M25 a1) fun v26 =>
  if a2 = 0 then
    bnd (fM_of M25 a1 4) fun v28 =>
    fM_steps_j84 M25 a1 a2 a3 a6 v26 v28 a4
  else
    fM_steps_j84 M25 a1 a2 a3 a6 v26 a5 a4
def fM_steps (M : zM) (a1 : Int32) (a2 : Int32) : Option (Int32 × zM) :=
  bnd (fM_of M a1 3) fun v41 =>
  bnd (rd 160 (mA M 249) (5 + v41)) fun v43 =>
  bnd (fM_of M a1 4) fun v44 =>
  bnd (fM_hourNow M a1) fun v46 =>
  if a2 = 0 then
    fM_steps_j59 M a1 a2 (fM_spt a1) v43 v44 v46 (fM_east v44) ((fM_spt a1) + 4)
  else
    fM_steps_j59 M a1 a2 (fM_spt a1) v43 v44 v46 (fM_west v44) ((fM_spt a1) + 4)
def fM_walksOn_b2 (a1 : Int32) (M : zM) (a2 : Int32) : Option ((zM × Int32) ⊕ (zM)) :=
  if a2 < 10 then
    bnd (fM_of M a1 7) fun v13 =>
    if 0 < v13 then
      bnd (fM_of M a1 6) fun v15 =>
      bnd (fM_stepWhy M a1 v15) fun v17 =>
      if v17 = 0 then
        bnd2 (fM_steps M a1 v15) fun v20 M19 =>
        bnd (some (wmF M19 29 v20)) fun M22 =>
        bnd (rd 160 (mA M22 249) ((fM_spt a1) + 7)) fun v23 =>
        bnd (wr 160 (mA M22 249) ((fM_spt a1) + 7) (v23 - 1)) fun A24 =>
        bnd (some (wmA M22 249 A24)) fun M25 =>
        some (.inl (M25, (a2 + 1)))
      else
        bnd (wr 160 (mA M 249) ((fM_spt a1) + 7) 0) fun A26 =>
        bnd (some (wmA M 249 A26)) fun M27 =>
        some (.inl (M27, (a2 + 1)))
    else
      some (.inr M)
  else
    some (.inr M)
def fM_walksOn (M : zM) (a1 : Int32) : Option zM :=
  iter (fun s => fM_walksOn_b2 a1 s.1 s.2) fu (M, 0)
def fM_strain (M : zM) (a1 : Int32) : Option Int32 :=
  bnd (zrem ((a1 + ((mA M 249) 0)) - 1) ((mA M 249) 0)) fun v5 =>
  bnd (zrem (a1 + 1) ((mA M 249) 0)) fun v6 =>
  bnd (rd 160 (mA M 249) (14 + a1)) fun v7 =>
  bnd (rd 160 (mA M 249) (14 + v5)) fun v8 =>
  bnd (fM_isTornSeam M v5) fun v9 =>
  bnd (fM_isTornSeam M v6) fun v11 =>
  some ((((v7 + v8) / 60) + (fM_truth v9)) + (fM_truth v11))
def fM_beginning_b4 (M : zM) (a1 : Int32) (a2 : Int32) (a3 : Int32) : Option ((Int32 × Int32) ⊕ (Int32)) :=
  if a3 < a1 then
    bnd (rd 160 (mA M 249) (14 + a3)) fun v3 =>
    some (.inl ((a2 + v3), (a3 + 1)))
  else
    some (.inr a2)
def fM_beginning (M : zM) (a1 : Int32) : Option Int32 :=
  iter (fun s => fM_beginning_b4 M a1 s.1 s.2) fu (0, 0)
def fM_crosses (M : zM) (a1 : Int32) (a2 : Int32) : Option Bool :=
  bnd (fM_its M a1 3) fun v1 =>
  if v1 = 0 then
    bnd (fM_its M a1 1) fun v3 =>
    bnd (fM_lastOf M a1) fun v5 =>
    if (fM_isIn (Int32.toInt64 a2) (Int32.toInt64 (v3 + 1)) (Int32.toInt64 v5)) = true then
      some true
    else
      some false
  else
    some false
def fM_tears_b11 (a2 : Int32) (M : zM) (a3 : Int32) (a4 : Int32) : Option ((zM × Int32 × Int32) ⊕ (Int32 × zM)) :=
  if a4 < ((mA M 249) 2) then
    bnd (fM_crosses M a4 a2) fun v7 =>
    if v7 = true then
      bnd (wr 160 (mA M 249) ((fM_lbl a4) + 3) 1) fun A9 =>
      bnd (some (wmA M 249 A9)) fun M10 =>
      some (.inl (M10, (a3 + 1), (a4 + 1)))
    else
      some (.inl (M, a3, (a4 + 1)))
  else
    some (.inr (a3, M))
def fM_tears (M : zM) (a1 : Int32) : Option (Int32 × zM) :=
  bnd (fM_beginning M a1) fun v11 =>
  iter (fun s => fM_tears_b11 v11 s.1 s.2.1 s.2.2) fu (M, 0, 0)
def fM_wears_j52 (M : zM) (a1 : Int32) (a0t : Int32) (a1t : Int32) : Option (Int32 × zM) :=
  bnd (wr 160 (mA M 249) a1t a0t) fun A6 =>
  bnd (some (wmA M 249 A6)) fun M7 =>
  bnd (fM_isTornSeam M7 a1) fun v8 =>
  if v8 = true then
    bnd2 (fM_tears M7 a1) fun v11 M10 =>
    bnd (some (wmF M10 29 v11)) fun M13 =>
    some (1, M13)
  else
    some (0, M7)
def fM_wears (M : zM) (a1 : Int32) : Option (Int32 × zM) :=
  bnd (fM_isTornSeam M a1) fun v14 =>
  if v14 = true then
    some (0, M)
  else
    bnd (fM_strain M a1) fun v16 =>
    bnd (rd 160 (mA M 249) (26 + a1)) fun v18 =>
    if v16 < v18 then
      bnd (rd 160 (mA M 249) (26 + a1)) fun v19 =>
      fM_wears_j52 M a1 (v19 - v16) (26 + a1)
    else
      fM_wears_j52 M a1 0 (26 + a1)
def fM_passesOne_j55 (M : zM) (a1 : Int32) (a0t : Bool) (a1t : Int32) (a2t : Int32) : Option ((zM × Int32) ⊕ (Int32 × zM)) :=
  bnd (wr 160 (mA M 249) a2t (a1t + (fM_truth a0t))) fun A10 =>
  bnd (some (wmA M 249 A10)) fun M11 =>
  some (.inl (M11, (a1 + 1)))
def fM_passesOne_b101 (M : zM) (a1 : Int32) (a2 : Int32) : Option ((zM × Int32 × Int32) ⊕ (Int32 × zM)) :=
  if a2 < ((mA M 249) 0) then
    if (((mA M 249) 4) - ((mA M 249) 4) / 6 * 6) = 0 then
      bnd2 (fM_wears M a2) fun v22 M21 =>
      some (.inl (M21, (a1 + v22), (a2 + 1)))
    else
      some (.inr (a1, M))
  else
    some (.inr (a1, M))
def fM_passesOne_b68 (M : zM) (a1 : Int32) : Option ((zM × Int32) ⊕ (Int32 × zM)) :=
  if a1 < ((mA M 249) 1) then
    bnd (fM_travels M a1) fun v17 =>
    if v17 = true then
      bnd (fM_walksOn M a1) fun M19 =>
      some (.inl (M19, (a1 + 1)))
    else
      some (.inl (M, (a1 + 1)))
  else
    Option.map .inr (iter (fun s => fM_passesOne_b101 s.1 s.2.1 s.2.2) fu (M, 0, 0))
def fM_passesOne_b12 (M : zM) (a1 : Int32) : Option ((zM × Int32) ⊕ (Int32 × zM)) :=
  if a1 < ((mA M 249) 1) then
    bnd (fM_travels M a1) fun v12 =>
    if v12 = true then
      bnd (rd 160 (mA M 249) ((fM_spt a1) + 5)) fun v14 =>
      bnd (fM_hourNow M a1) fun v15 =>
      if v15 = 0 then
        fM_passesOne_j55 M a1 true v14 ((fM_spt a1) + 5)
      else
        fM_passesOne_j55 M a1 false v14 ((fM_spt a1) + 5)
    else
      some (.inl (M, (a1 + 1)))
  else
    Option.map .inr (iter (fun s => fM_passesOne_b68 s.1 s.2) fu (M, 0))
def fM_passesOne (M : zM) : Option (Int32 × zM) :=
  bnd (some (wmA M 249 (upd (mA M 249) 4 (((mA M 249) 4) + 1)))) fun M24 =>
  iter (fun s => fM_passesOne_b12 s.1 s.2) fu (M24, 0)
def fM_passes_b4 (a1 : Int32) (M : zM) (a2 : Int32) (a3 : Int32) : Option ((zM × Int32 × Int32) ⊕ (Int32 × zM)) :=
  if a3 < a1 then
    bnd2 (fM_passesOne M) fun v2 M1 =>
    some (.inl (M1, (a2 + v2), (a3 + 1)))
  else
    some (.inr (a2, M))
def fM_passes (M : zM) (a1 : Int32) : Option (Int32 × zM) :=
  iter (fun s => fM_passes_b4 a1 s.1 s.2.1 s.2.2) fu (M, 0, 0)
def fM_keeps_j55 (M : zM) : Option zM :=
  bnd (fM_copiesRow M 251 0 253 (160 * (mF M 18))) fun M9 =>
  bnd (some (wmF M9 18 ((mF M9 18) + 1))) fun M11 =>
  some M11
def fM_keeps_b21 (M : zM) (a1 : Int32) : Option ((zM × Int32) ⊕ (zM)) :=
  if a1 < (160 * (mF M 18)) then
    bnd (rd 960 (mA M 253) (a1 + 160)) fun v12 =>
    bnd (wr 960 (mA M 253) a1 v12) fun A13 =>
    bnd (some (wmA M 253 A13)) fun M14 =>
    some (.inl (M14, (a1 + 1)))
  else
    Option.map .inr (fM_keeps_j55 M)
def fM_keeps (M : zM) : Option zM :=
  if (mF M 18) = 6 then
    bnd (some (wmF M 18 ((mF M 18) - 1))) fun M15 =>
    iter (fun s => fM_keeps_b21 s.1 s.2) fu (M15, 0)
  else
    fM_keeps_j55 M
def fM_kept (M : zM) (a1 : Int32) : Option (Int32 × zM) :=
  bnd (fM_keeps M) fun M1 =>
  some (a1, M1)
def fM_pass (M : zM) (a1 : Int32) : Option (Int32 × zM) :=
  bnd2 (fM_goes M (fM_areHours a1)) fun v2 M1 =>
  if v2 = true then
    bnd (fM_laysAside M1) fun M4 =>
    bnd2 (fM_passes M4 a1) fun v7 M6 =>
    bnd2 (fM_kept M6 v7) fun v10 M9 =>
    some (v10, M9)
  else
    some (0, M1)
def fG_hasSpot (G : zG) (a1 : Int32) : Bool :=
  if a1 < 0 then
    false
  else
    if a1 < (gF G 0 4) then
      true
    else
      false
def fX_isDirection (a0 : Int32) : Bool :=
  if a0 = 0 then
    true
  else
    if a0 = 1 then
      true
    else
      false
def fG_walkRefusal (G : zG) (a1 : Int32) (a2 : Int32) (a3 : Int32) : Option Int32 :=
  if (fG_hasSpot G a1) = true then
    if (fX_isDirection a2) = true then
      if a3 < 0 then
        some 2
      else
        if 359 < a3 then
          some 2
        else
          bnd (rix 10 a1) fun p2 =>
          if (gB G (7 + p2)) = true then
            some 0
          else
            some 3
    else
      some 2
  else
    some 1
def fP_setOut (G : zG) (p0 : Nat) (a1 : Int32) (a2 : Int32) : Option (Int32 × zG) :=
  bnd (some (wgF G (7 + p0) 5 a1)) fun G3 =>
  bnd (some (wgF G3 (7 + p0) 6 a2)) fun G4 =>
  some ((gF G (7 + p0) 6), G4)
def fX_walk (Y : Nat → Int32) (Γ : Nat → zG) (a1 : Int32) (a2 : Int32) (a3 : Int32) : Option ((Int32 ⊕ String) × (Nat → Int32) × (Nat → zG)) :=
  bnd (fG_walkRefusal (Γ 10) a1 a2 a3) fun v2 =>
  bnx (fX_refuse v2) (fun _ =>
    bnd2 (fY_remember Y Γ 10) fun Y7 Γ8 =>
    bnd (rix 10 a1) fun p10 =>
    bnd2 (fP_setOut (Γ8 10) p10 a2 a3) fun v12 G11 =>
    some (.inl v12, Y7, (gup Γ8 10 G11))
    ) (fun E5 =>
    some (.inr E5, Y, Γ)
    )
def fw_walk (Y : Nat → Int32) (Γ : Nat → zG) (ou : Nat → Int64) (j : Nat) (a1 : Int32) (a2 : Int32) (a3 : Int32) : Option (Int32 × (Nat → Int32) × (Nat → zG) × (Nat → Int64) × Nat) :=
  bnd3 (fX_walk Y Γ a1 a2 a3) fun r8 Y2 Γ3 => Sum.elim (fun v6 =>
    bnd (some ((vp_updL ou 0 (Int32.toInt64 v6)))) fun ou7 =>
    some (0, Y2, Γ3, ou7, j)
    ) (fun E5 =>
    if E5 = "java/lang/IndexOutOfBoundsException" then
      some (1, Y2, Γ3, ou, (j + 1))
    else
    if E5 = "java/lang/IllegalArgumentException" then
      some (2, Y2, Γ3, ou, (j + 1))
    else
    if E5 = "java/lang/IllegalStateException" then
      some (3, Y2, Γ3, ou, (j + 1))
    else
      none
    ) r8
def fM_isSpot (M : zM) (a1 : Int32) : Bool :=
  (fM_isIn (Int32.toInt64 a1) 0 (Int32.toInt64 (((mA M 249) 1) - 1)))
def fM_isWalk (a0 : Int32) (a1 : Int32) : Bool :=
  if (fM_isIn (Int32.toInt64 a0) 0 1) = true then
    if (fM_isIn (Int32.toInt64 a1) 0 359) = true then
      true
    else
      false
  else
    false
def fM_isTravelling (M : zM) (a1 : Int32) : Option Bool :=
  if (fM_isSpot M a1) = true then
    bnd (fM_travels M a1) fun v1 =>
    if v1 = true then
      some true
    else
      some false
  else
    some false
def fM_goesThree_j26 (M : zM) (a0t : Int32) : Option (Bool × zM) :=
  bnd (some (wmF M 0 a0t)) fun M3 =>
  if (mF M3 0) = 0 then
    some (true, M3)
  else
    some (false, M3)
def fM_goesThree (M : zM) (a1 : Bool) (a2 : Bool) (a3 : Bool) : Option (Bool × zM) :=
  if a1 = true then
    if a2 = true then
      if a3 = true then
        fM_goesThree_j26 M 0
      else
        fM_goesThree_j26 M 3
    else
      fM_goesThree_j26 M 2
  else
    fM_goesThree_j26 M 1
def fM_tells (M : zM) (a1 : Int32) (a2 : Int32) (a3 : Int32) : Option (Int32 × zM) :=
  bnd (fM_of M a1 7) fun v5 =>
  bnd (wr 160 (mA M 249) ((fM_spt a1) + 6) a2) fun A7 =>
  bnd (some (wmA M 249 A7)) fun M8 =>
  bnd (wr 160 (mA M8 249) ((fM_spt a1) + 7) a3) fun A9 =>
  bnd (some (wmA M8 249 A9)) fun M10 =>
  some (v5, M10)
def fM_walk (M : zM) (a1 : Int32) (a2 : Int32) (a3 : Int32) : Option (Int32 × zM) :=
  bnd (fM_isTravelling M a1) fun v1 =>
  bnd2 (fM_goesThree M (fM_isSpot M a1) (fM_isWalk a2 a3) v1) fun v4 M3 =>
  if v4 = true then
    bnd (fM_laysAside M3) fun M6 =>
    bnd2 (fM_tells M6 a1 a2 a3) fun v9 M8 =>
    bnd2 (fM_kept M8 v9) fun v12 M11 =>
    some (v12, M11)
  else
    some (0, M3)
def fG_stepRefusal (G : zG) (a1 : Int32) (a2 : Int32) : Option Int32 :=
  if (fG_hasSpot G a1) = true then
    if (fX_isDirection a2) = true then
      bnd (rix 10 a1) fun p2 =>
      bnd (fG_stepHindrance G p2 a2) fun v3 =>
      if v3 = 0 then
        some 0
      else
        some 3
    else
      some 2
  else
    some 1
def fX_step (Y : Nat → Int32) (Γ : Nat → zG) (a1 : Int32) (a2 : Int32) : Option ((Int32 ⊕ String) × (Nat → Int32) × (Nat → zG)) :=
  bnd (fG_stepRefusal (Γ 10) a1 a2) fun v3 =>
  bnx (fX_refuse v3) (fun _ =>
    bnd2 (fY_remember Y Γ 10) fun Y8 Γ9 =>
    bnd (rix 10 a1) fun p11 =>
    bnd (fG_makeStep (Γ9 10) p11 a2) fun G12 =>
    bnd (rix 10 a1) fun p14 =>
    some (.inl (gF ((gup Γ9 10 G12) 10) (7 + p14) 3), Y8, (gup Γ9 10 G12))
    ) (fun E6 =>
    some (.inr E6, Y, Γ)
    )
def fw_step (Y : Nat → Int32) (Γ : Nat → zG) (ou : Nat → Int64) (j : Nat) (a1 : Int32) (a2 : Int32) : Option (Int32 × (Nat → Int32) × (Nat → zG) × (Nat → Int64) × Nat) :=
  bnd3 (fX_step Y Γ a1 a2) fun r8 Y2 Γ3 => Sum.elim (fun v6 =>
    bnd (some ((vp_updL ou 0 (Int32.toInt64 v6)))) fun ou7 =>
    some (0, Y2, Γ3, ou7, j)
    ) (fun E5 =>
    if E5 = "java/lang/IndexOutOfBoundsException" then
      some (1, Y2, Γ3, ou, (j + 1))
    else
    if E5 = "java/lang/IllegalArgumentException" then
      some (2, Y2, Γ3, ou, (j + 1))
    else
    if E5 = "java/lang/IllegalStateException" then
      some (3, Y2, Γ3, ou, (j + 1))
    else
      none
    ) r8
def fM_step_j55 (M : zM) (a1 : Int32) (a2 : Int32) (a0t : Bool) (a1t : Bool) (a2t : Bool) : Option (Int32 × zM) :=
  bnd2 (fM_goesThree M a2t a1t a0t) fun v4 M3 =>
  if v4 = true then
    bnd (fM_laysAside M3) fun M6 =>
    bnd2 (fM_steps M6 a1 a2) fun v9 M8 =>
    bnd2 (fM_kept M8 v9) fun v12 M11 =>
    some (v12, M11)
  else
    some (0, M3)
def fM_step_j54 (M : zM) (a1 : Int32) (a2 : Int32) (a0t : Bool) (a1t : Bool) : Option (Int32 × zM) :=
  fM_step_j55 M a1 a2 false a0t a1t
def fM_step_j23 (M : zM) (a1 : Int32) (a2 : Int32) (a0t : Bool) : Option (Int32 × zM) :=
  if a0t = true then
    bnd (fM_stepWhy M a1 a2) fun v1 =>
    if v1 = 0 then
      fM_step_j55 M a1 a2 true (fM_isIn (Int32.toInt64 a2) 0 1) (fM_isSpot M a1)
    else
      fM_step_j54 M a1 a2 (fM_isIn (Int32.toInt64 a2) 0 1) (fM_isSpot M a1)
  else
    fM_step_j54 M a1 a2 (fM_isIn (Int32.toInt64 a2) 0 1) (fM_isSpot M a1)
def fM_step_j22 (M : zM) (a1 : Int32) (a2 : Int32) : Option (Int32 × zM) :=
  fM_step_j23 M a1 a2 false
def fM_step (M : zM) (a1 : Int32) (a2 : Int32) : Option (Int32 × zM) :=
  if (fM_isSpot M a1) = true then
    if (fM_isIn (Int32.toInt64 a2) 0 1) = true then
      fM_step_j23 M a1 a2 true
    else
      fM_step_j22 M a1 a2
  else
    fM_step_j22 M a1 a2
def fC_hasGore (G : zG) (a1 : Int32) : Bool :=
  if a1 < 0 then
    false
  else
    if a1 < (gF G 1 0) then
      true
    else
      false
def fG_ripRefusal (G : zG) (a1 : Int32) : Option Int32 :=
  if (fC_hasGore G a1) = true then
    bnd (fC_isTorn G a1) fun v1 =>
    if v1 = true then
      some 3
    else
      some 0
  else
    some 1
def fG_openSeam (G : zG) (a1 : Int32) : Option (Int32 × zG) :=
  bnd (rd 12 (gA G 4) a1) fun v6 =>
  bnd (some (wgF G 0 3 ((gF G 0 3) + (v6 / 2)))) fun G7 =>
  bnd (wr 12 (gA G7 4) a1 0) fun A8 =>
  bnd (some (wgA G7 4 A8)) fun G9 =>
  bnd (rd 12 (gA G9 3) a1) fun v10 =>
  bnd2 (fG_tearLabels G9 v10) fun v12 G11 =>
  some (v12, G11)
def fX_rip (Y : Nat → Int32) (Γ : Nat → zG) (a1 : Int32) : Option ((Int32 ⊕ String) × (Nat → Int32) × (Nat → zG)) :=
  bnd (fG_ripRefusal (Γ 10) a1) fun v1 =>
  bnx (fX_refuse v1) (fun _ =>
    bnd2 (fY_remember Y Γ 10) fun Y6 Γ7 =>
    bnd2 (fG_openSeam (Γ7 10) a1) fun v10 G9 =>
    some (.inl v10, Y6, (gup Γ7 10 G9))
    ) (fun E4 =>
    some (.inr E4, Y, Γ)
    )
def fw_rip (Y : Nat → Int32) (Γ : Nat → zG) (ou : Nat → Int64) (j : Nat) (a1 : Int32) : Option (Int32 × (Nat → Int32) × (Nat → zG) × (Nat → Int64) × Nat) :=
  bnd3 (fX_rip Y Γ a1) fun r8 Y2 Γ3 => Sum.elim (fun v6 =>
    bnd (some ((vp_updL ou 0 (Int32.toInt64 v6)))) fun ou7 =>
    some (0, Y2, Γ3, ou7, j)
    ) (fun E5 =>
    if E5 = "java/lang/IndexOutOfBoundsException" then
      some (1, Y2, Γ3, ou, (j + 1))
    else
    if E5 = "java/lang/IllegalStateException" then
      some (2, Y2, Γ3, ou, (j + 1))
    else
      none
    ) r8
def fM_isGore (M : zM) (a1 : Int32) : Bool :=
  (fM_isIn (Int32.toInt64 a1) 0 (Int32.toInt64 (((mA M 249) 0) - 1)))
def fM_mayRip (M : zM) (a1 : Int32) : Option Bool :=
  if (fM_isGore M a1) = true then
    bnd (fM_isTornSeam M a1) fun v1 =>
    if v1 = true then
      some false
    else
      some true
  else
    some false
def fM_goesBoth_j18 (M : zM) (a0t : Int32) : Option (Bool × zM) :=
  bnd (some (wmF M 0 a0t)) fun M3 =>
  if (mF M3 0) = 0 then
    some (true, M3)
  else
    some (false, M3)
def fM_goesBoth (M : zM) (a1 : Bool) (a2 : Bool) : Option (Bool × zM) :=
  if a1 = true then
    if a2 = true then
      fM_goesBoth_j18 M 0
    else
      fM_goesBoth_j18 M 2
  else
    fM_goesBoth_j18 M 1
def fM_rips (M : zM) (a1 : Int32) : Option (Int32 × zM) :=
  bnd (rd 160 (mA M 249) (26 + a1)) fun v5 =>
  bnd (some (wmA M 249 (upd (mA M 249) 3 (((mA M 249) 3) + (v5 / 2))))) fun M6 =>
  bnd (wr 160 (mA M6 249) (26 + a1) 0) fun A7 =>
  bnd (some (wmA M6 249 A7)) fun M8 =>
  bnd2 (fM_tears M8 a1) fun v10 M9 =>
  some (v10, M9)
def fM_rip (M : zM) (a1 : Int32) : Option (Int32 × zM) :=
  bnd (fM_mayRip M a1) fun v1 =>
  bnd2 (fM_goesBoth M (fM_isGore M a1) v1) fun v4 M3 =>
  if v4 = true then
    bnd (fM_laysAside M3) fun M6 =>
    bnd2 (fM_rips M6 a1) fun v9 M8 =>
    bnd2 (fM_kept M8 v9) fun v12 M11 =>
    some (v12, M11)
  else
    some (0, M3)
def fG_canSew (G : zG) (a1 : Int32) (a2 : Int32) : Option Bool :=
  bnd (rd 12 (gA G 4) a1) fun v2 =>
  if 99 < (v2 + a2) then
    some false
  else
    if (gF G 0 3) < a2 then
      some false
    else
      some true
def fG_sewRefusal (G : zG) (a1 : Int32) (a2 : Int32) : Option Int32 :=
  if (fC_hasGore G a1) = true then
    if a2 < 1 then
      some 2
    else
      if 99 < a2 then
        some 2
      else
        bnd (fG_canSew G a1 a2) fun v1 =>
        if v1 = true then
          some 0
        else
          some 3
  else
    some 1
def fG_addStitches (G : zG) (a1 : Int32) (a2 : Int32) : Option (Int32 × zG) :=
  bnd (some (wgF G 0 3 ((gF G 0 3) - a2))) fun G6 =>
  bnd (rd 12 (gA G6 4) a1) fun v7 =>
  bnd (wr 12 (gA G6 4) a1 (v7 + a2)) fun A8 =>
  bnd (some (wgA G6 4 A8)) fun G9 =>
  bnd (rd 12 (gA G9 4) a1) fun v10 =>
  some (v10, G9)
def fX_sew (Y : Nat → Int32) (Γ : Nat → zG) (a1 : Int32) (a2 : Int32) : Option ((Int32 ⊕ String) × (Nat → Int32) × (Nat → zG)) :=
  bnd (fG_sewRefusal (Γ 10) a1 a2) fun v1 =>
  bnx (fX_refuse v1) (fun _ =>
    bnd2 (fY_remember Y Γ 10) fun Y6 Γ7 =>
    bnd2 (fG_addStitches (Γ7 10) a1 a2) fun v10 G9 =>
    some (.inl v10, Y6, (gup Γ7 10 G9))
    ) (fun E4 =>
    some (.inr E4, Y, Γ)
    )
def fw_sew (Y : Nat → Int32) (Γ : Nat → zG) (ou : Nat → Int64) (j : Nat) (a1 : Int32) (a2 : Int32) : Option (Int32 × (Nat → Int32) × (Nat → zG) × (Nat → Int64) × Nat) :=
  bnd3 (fX_sew Y Γ a1 a2) fun r8 Y2 Γ3 => Sum.elim (fun v6 =>
    bnd (some ((vp_updL ou 0 (Int32.toInt64 v6)))) fun ou7 =>
    some (0, Y2, Γ3, ou7, j)
    ) (fun E5 =>
    if E5 = "java/lang/IndexOutOfBoundsException" then
      some (1, Y2, Γ3, ou, (j + 1))
    else
    if E5 = "java/lang/IllegalArgumentException" then
      some (2, Y2, Γ3, ou, (j + 1))
    else
    if E5 = "java/lang/IllegalStateException" then
      some (3, Y2, Γ3, ou, (j + 1))
    else
      none
    ) r8
def fM_areStitches (a0 : Int32) : Bool :=
  (fM_isIn (Int32.toInt64 a0) 1 99)
def fM_maySew (M : zM) (a1 : Int32) (a2 : Int32) : Option Bool :=
  if (fM_isGore M a1) = true then
    bnd (rd 160 (mA M 249) (26 + a1)) fun v2 =>
    if 99 < (v2 + a2) then
      some false
    else
      if ((mA M 249) 3) < a2 then
        some false
      else
        some true
  else
    some false
def fM_sews (M : zM) (a1 : Int32) (a2 : Int32) : Option (Int32 × zM) :=
  bnd (rd 160 (mA M 249) (26 + a1)) fun v6 =>
  bnd (wr 160 (mA M 249) (26 + a1) (v6 + a2)) fun A7 =>
  bnd (some (wmA M 249 A7)) fun M8 =>
  bnd (some (wmA M8 249 (upd (mA M8 249) 3 (((mA M8 249) 3) - a2)))) fun M9 =>
  bnd (rd 160 (mA M9 249) (26 + a1)) fun v10 =>
  some (v10, M9)
def fM_sew (M : zM) (a1 : Int32) (a2 : Int32) : Option (Int32 × zM) :=
  bnd (fM_maySew M a1 a2) fun v1 =>
  bnd2 (fM_goesThree M (fM_isGore M a1) (fM_areStitches a2) v1) fun v4 M3 =>
  if v4 = true then
    bnd (fM_laysAside M3) fun M6 =>
    bnd2 (fM_sews M6 a1 a2) fun v9 M8 =>
    bnd2 (fM_kept M8 v9) fun v12 M11 =>
    some (v12, M11)
  else
    some (0, M3)
def fX_isMeridian (a0 : Int32) : Bool :=
  if a0 < 0 then
    false
  else
    if a0 < 360 then
      true
    else
      false
def fJ_abs_0f7a4 (a0 : Int32) : Int32 :=
  if a0 < 0 then
    (-a0)
  else
    a0
def fG_isWide (a0 : Int32) (a1 : Int32) : Bool :=
  if 60 < (fJ_abs_0f7a4 (a0 - a1)) then
    true
  else
    false
def fG_hemPrice (G : zG) (a1 : Int32) (a2 : Int32) : Option Int32 :=
  bnd (rd 9 (gA G 5) a1) fun v2 =>
  some (((fJ_abs_0f7a4 (a2 - v2)) + 4) / 5)
def fG_hemHindrance_b60 (G : zG) (a1 : Int32) (a2 : Int32) (a3 : Int32) : Option ((Int32) ⊕ (Int32)) :=
  if a3 < (gF G 0 6) then
    bnd (rix 8 a3) fun p11 =>
    if (gF G (18 + p11) 0) = a1 then
      bnd (rix 8 a3) fun p12 =>
      if (fL_crosses G p12 a2) = true then
        some (.inr 3)
      else
        some (.inl (a3 + 1))
    else
      some (.inl (a3 + 1))
  else
    bnd (fG_hemPrice G a1 a2) fun v9 =>
    if (gF G 0 3) < v9 then
      some (.inr 4)
    else
      some (.inr 0)
def fG_hemHindrance_j58 (G : zG) (a1 : Int32) (a2 : Int32) : Option Int32 :=
  iter (fun s => fG_hemHindrance_b60 G a1 a2 s) fu 0
def fG_hemHindrance_j35 (G : zG) (a1 : Int32) (a2 : Int32) : Option Int32 :=
  if a1 < 8 then
    bnd (rd 9 (gA G 5) (a1 + 1)) fun v8 =>
    if (fG_isWide v8 a2) = true then
      some 2
    else
      fG_hemHindrance_j58 G a1 a2
  else
    fG_hemHindrance_j58 G a1 a2
def fG_hemHindrance (G : zG) (a1 : Int32) (a2 : Int32) : Option Int32 :=
  bnd (rd 9 (gA G 5) a1) fun v13 =>
  if a2 = v13 then
    some 1
  else
    if a2 = 0 then
      some 1
    else
      if 0 < a1 then
        bnd (rd 9 (gA G 5) (a1 - 1)) fun v14 =>
        if (fG_isWide v14 a2) = true then
          some 2
        else
          fG_hemHindrance_j35 G a1 a2
      else
        fG_hemHindrance_j35 G a1 a2
def fG_hemRefusal (G : zG) (a1 : Int32) (a2 : Int32) : Option Int32 :=
  if (fX_isBand a1) = true then
    if (fX_isMeridian a2) = true then
      bnd (fG_hemHindrance G a1 a2) fun v1 =>
      if v1 = 0 then
        some 0
      else
        some 3
    else
      some 2
  else
    some 2
def fG_shiftHem_b46 (a1 : Int32) (a2 : Int32) (a3 : Int32) (a4 : Int32) (a5 : Int32) (G : zG) (a6 : Int32) (a7 : Int32) : Option ((zG × Int32 × Int32) ⊕ (Int32 × zG)) :=
  if a7 < (gF G 0 4) then
    bnd (rix 10 a7) fun p24 =>
    if (gB G (7 + p24)) = true then
      if (gF G (7 + p24) 2) = a1 then
        if (gF G (7 + p24) 3) < a3 then
          some (.inl (G, a6, (a7 + 1)))
        else
          if (gF G (7 + p24) 3) < a4 then
            bnd (some (wgF G (7 + p24) 4 ((gF G (7 + p24) 4) + a5))) fun G25 =>
            some (.inl (G25, (a6 + 1), (a7 + 1)))
          else
            some (.inl (G, a6, (a7 + 1)))
      else
        some (.inl (G, a6, (a7 + 1)))
    else
      some (.inl (G, a6, (a7 + 1)))
  else
    bnd (fG_hemPrice G a1 a2) fun v19 =>
    bnd (some (wgF G 0 3 ((gF G 0 3) - v19))) fun G21 =>
    bnd (wr 9 (gA G21 5) a1 a2) fun A22 =>
    bnd (some (wgA G21 5 A22)) fun G23 =>
    some (.inr (a6, G23))
def fG_shiftHem_j38 (G : zG) (a1 : Int32) (a2 : Int32) (a3 : Int32) (a4 : Int32) (a0t : Int32) : Option (Int32 × zG) :=
  iter (fun s => fG_shiftHem_b46 a1 a2 a3 a4 a0t s.1 s.2.1 s.2.2) fu (G, 0, 0)
def fG_shiftHem (G : zG) (a1 : Int32) (a2 : Int32) : Option (Int32 × zG) :=
  bnd (rd 9 (gA G 5) a1) fun v26 =>
  bnd (rd 9 (gA G 5) a1) fun v27 =>
  bnd (rd 9 (gA G 5) a1) fun v28 =>
  if v28 < a2 then
    fG_shiftHem_j38 G a1 a2 (fJ_min_7cf53 v26 a2) (fJ_max_7cf53 v27 a2) 1
  else
    fG_shiftHem_j38 G a1 a2 (fJ_min_7cf53 v26 a2) (fJ_max_7cf53 v27 a2) (-1)
def fX_moveHem (Y : Nat → Int32) (Γ : Nat → zG) (a1 : Int32) (a2 : Int32) : Option ((Int32 ⊕ String) × (Nat → Int32) × (Nat → zG)) :=
  bnd (fG_hemRefusal (Γ 10) a1 a2) fun v1 =>
  bnx (fX_refuse v1) (fun _ =>
    bnd2 (fY_remember Y Γ 10) fun Y6 Γ7 =>
    bnd2 (fG_shiftHem (Γ7 10) a1 a2) fun v10 G9 =>
    some (.inl v10, Y6, (gup Γ7 10 G9))
    ) (fun E4 =>
    some (.inr E4, Y, Γ)
    )
def fw_moveHem (Y : Nat → Int32) (Γ : Nat → zG) (ou : Nat → Int64) (j : Nat) (a1 : Int32) (a2 : Int32) : Option (Int32 × (Nat → Int32) × (Nat → zG) × (Nat → Int64) × Nat) :=
  bnd3 (fX_moveHem Y Γ a1 a2) fun r8 Y2 Γ3 => Sum.elim (fun v6 =>
    bnd (some ((vp_updL ou 0 (Int32.toInt64 v6)))) fun ou7 =>
    some (0, Y2, Γ3, ou7, j)
    ) (fun E5 =>
    if E5 = "java/lang/IllegalArgumentException" then
      some (1, Y2, Γ3, ou, (j + 1))
    else
    if E5 = "java/lang/IllegalStateException" then
      some (2, Y2, Γ3, ou, (j + 1))
    else
      none
    ) r8
def fM_isMeridian (a0 : Int32) : Bool :=
  (fM_isIn (Int32.toInt64 a0) 0 359)
def fM_isSpotAt (a0 : Int32) (a1 : Int32) : Bool :=
  if (fM_isBand a0) = true then
    if (fM_isMeridian a1) = true then
      true
    else
      false
  else
    false
def fM_gap (a0 : Int32) (a1 : Int32) : Int32 :=
  if a0 < a1 then
    (a1 - a0)
  else
    (a0 - a1)
def fM_isFar (M : zM) (a1 : Int32) (a2 : Int32) : Option Bool :=
  if (fM_isBand a1) = true then
    bnd (rd 160 (mA M 249) (5 + a1)) fun v2 =>
    if 60 < (fM_gap v2 a2) then
      some true
    else
      some false
  else
    some false
def fM_wouldBeCrossed_b2 (M : zM) (a1 : Int32) (a2 : Int32) (a3 : Int32) : Option ((Int32) ⊕ (Bool)) :=
  if a3 < ((mA M 249) 2) then
    bnd (fM_its M a3 0) fun v1 =>
    if v1 = a1 then
      bnd (fM_crosses M a3 a2) fun v3 =>
      if v3 = true then
        some (.inr true)
      else
        some (.inl (a3 + 1))
    else
      some (.inl (a3 + 1))
  else
    some (.inr false)
def fM_wouldBeCrossed (M : zM) (a1 : Int32) (a2 : Int32) : Option Bool :=
  iter (fun s => fM_wouldBeCrossed_b2 M a1 a2 s) fu 0
def fM_threadFor (a0 : Int32) (a1 : Int32) : Int32 :=
  (((fM_gap a0 a1) + 4) / 5)
def fM_hemWhy (M : zM) (a1 : Int32) (a2 : Int32) : Option Int32 :=
  bnd (rd 160 (mA M 249) (5 + a1)) fun v2 =>
  if a2 = 0 then
    some 1
  else
    if a2 = v2 then
      some 1
    else
      bnd (fM_isFar M (a1 - 1) a2) fun v3 =>
      if v3 = true then
        some 2
      else
        bnd (fM_isFar M (a1 + 1) a2) fun v5 =>
        if v5 = true then
          some 2
        else
          bnd (fM_wouldBeCrossed M a1 a2) fun v7 =>
          if v7 = true then
            some 3
          else
            if ((mA M 249) 3) < (fM_threadFor v2 a2) then
              some 4
            else
              some 0
def fM_movesHem_j141 (M : zM) (a1 : Int32) (a2 : Int32) (a3 : Int32) (a4 : Int32) (a5 : Int32) (a6 : Int32) (a7 : Int32) (a0t : Int32) (a1t : Int32) (a2t : Int32) : Option ((zM × Int32 × Int32) ⊕ (Int32 × zM)) :=
  bnd (wr 160 (mA M 249) a2t (a1t + a0t)) fun A17 =>
  bnd (some (wmA M 249 A17)) fun M18 =>
  some (.inl (M18, (a6 + 1), (a7 + 1)))
def fM_movesHem_b62 (a1 : Int32) (a2 : Int32) (a3 : Int32) (a4 : Int32) (a5 : Int32) (M : zM) (a6 : Int32) (a7 : Int32) : Option ((zM × Int32 × Int32) ⊕ (Int32 × zM)) :=
  if a7 < ((mA M 249) 1) then
    bnd (fM_travels M a7) fun v19 =>
    if v19 = true then
      bnd (fM_of M a7 3) fun v21 =>
      if v21 = a1 then
        bnd (fM_of M a7 4) fun v23 =>
        if (fM_isIn (Int32.toInt64 v23) (Int32.toInt64 a4) (Int32.toInt64 (a5 - 1))) = true then
          bnd (rd 160 (mA M 249) ((fM_spt a7) + 5)) fun v25 =>
          if a3 < a2 then
            fM_movesHem_j141 M a1 a2 a3 a4 a5 a6 a7 1 v25 ((fM_spt a7) + 5)
          else
            fM_movesHem_j141 M a1 a2 a3 a4 a5 a6 a7 (-1) v25 ((fM_spt a7) + 5)
        else
          some (.inl (M, a6, (a7 + 1)))
      else
        some (.inl (M, a6, (a7 + 1)))
    else
      some (.inl (M, a6, (a7 + 1)))
  else
    some (.inr (a6, M))
def fM_movesHem_j31 (M : zM) (a1 : Int32) (a2 : Int32) (a3 : Int32) (a4 : Int32) (a0t : Int32) : Option (Int32 × zM) :=
  bnd (some (wmA M 249 (upd (mA M 249) 3 (((mA M 249) 3) - (fM_threadFor a3 a2))))) fun M14 =>
  bnd (wr 160 (mA M14 249) (5 + a1) a2) fun A15 =>
  bnd (some (wmA M14 249 A15)) fun M16 =>
  iter (fun s => fM_movesHem_b62 a1 a2 a3 a4 a0t s.1 s.2.1 s.2.2) fu (M16, 0, 0)
def fM_movesHem_j19 (M : zM) (a1 : Int32) (a2 : Int32) (a3 : Int32) (a0t : Int32) : Option (Int32 × zM) :=
  if a3 < a2 then
    fM_movesHem_j31 M a1 a2 a3 a0t a2
  else
    fM_movesHem_j31 M a1 a2 a3 a0t a3
def fM_movesHem (M : zM) (a1 : Int32) (a2 : Int32) : Option (Int32 × zM) :=
  bnd (rd 160 (mA M 249) (5 + a1)) fun v26 =>
  if v26 < a2 then
    fM_movesHem_j19 M a1 a2 v26 v26
  else
    fM_movesHem_j19 M a1 a2 v26 a2
def fM_moveHem_j26 (M : zM) (a1 : Int32) (a2 : Int32) (a0t : Bool) (a1t : Bool) : Option (Int32 × zM) :=
  bnd2 (fM_goesBoth M a1t a0t) fun v2 M1 =>
  if v2 = true then
    bnd (fM_laysAside M1) fun M4 =>
    bnd2 (fM_movesHem M4 a1 a2) fun v7 M6 =>
    bnd2 (fM_kept M6 v7) fun v10 M9 =>
    some (v10, M9)
  else
    some (0, M1)
def fM_moveHem_j25 (M : zM) (a1 : Int32) (a2 : Int32) (a0t : Bool) : Option (Int32 × zM) :=
  fM_moveHem_j26 M a1 a2 false a0t
def fM_moveHem (M : zM) (a1 : Int32) (a2 : Int32) : Option (Int32 × zM) :=
  if (fM_isSpotAt a1 a2) = true then
    bnd (fM_hemWhy M a1 a2) fun v12 =>
    if v12 = 0 then
      fM_moveHem_j26 M a1 a2 true (fM_isSpotAt a1 a2)
    else
      fM_moveHem_j25 M a1 a2 (fM_isSpotAt a1 a2)
  else
    fM_moveHem_j25 M a1 a2 (fM_isSpotAt a1 a2)
def fX_needPlace_j14  : Option ((Unit ⊕ String)) :=
  some (.inr "java/lang/IllegalArgumentException")
def fX_needPlace (a0 : Int32) (a1 : Int32) : Option ((Unit ⊕ String)) :=
  if (fX_isBand a0) = true then
    if (fX_isMeridian a1) = true then
      some (.inl ())
    else
      fX_needPlace_j14
  else
    fX_needPlace_j14
def fI_isLetter (a0 : Int32) : Bool :=
  if a0 < 97 then
    false
  else
    if 122 < a0 then
      false
    else
      true
def fI_wholeWord_b15 (I : zI) (a1 : Int64) (a3 : Int32) : Option ((Int64 × Int32) ⊕ (Int64)) :=
  if a3 < (iF I 1) then
    bnd (rd 600 (iA I) a3) fun v3 =>
    if (fI_isLetter v3) = true then
      bnd (rd 600 (iA I) a3) fun v4 =>
      some (.inl (((a1 <<< (Int32.toInt64 8 &&& 63)) ||| (Int32.toInt64 v4)), (a3 + 1)))
    else
      some (.inr 0)
  else
    some (.inr a1)
def fI_wholeWord (I : zI) : Option Int64 :=
  if 8 < (iF I 1) then
    some 0
  else
    iter (fun s => fI_wholeWord_b15 I s.1 s.2) fu (0, 0)
def fW_letterCount_b2 (a0 : Int64) (a2 : Int32) : Option ((Int32) ⊕ (Int32)) :=
  if a2 < 8 then
    if (Int64.toUInt64 a0 >>> ((Int32.toInt64 (8 * a2)).toUInt64 &&& Int64.toUInt64 63)).toInt64 = 0 then
      some (.inr a2)
    else
      some (.inl (a2 + 1))
  else
    some (.inr a2)
def fW_letterCount (a0 : Int64) : Option Int32 :=
  iter (fun s => fW_letterCount_b2 a0 s) fu 0
def fG_hasRoomForLabel (G : zG) : Bool :=
  if (gF G 0 6) < 8 then
    true
  else
    false
def fG_lastOf (a0 : Int32) (a1 : Int32) (a2 : Int32) : Int32 :=
  ((a2 + (a0 * (3 + (fJ_abs_0f7a4 (a1 - 4))))) - 1)
def fG_labelHindrance_b66 (G : zG) (a4 : Int32) (a5 : Int32) : Option ((Int32) ⊕ (Int32)) :=
  if a4 < a5 then
    some (.inr 0)
  else
    bnd (fC_isTornAt G a5) fun v3 =>
    if v3 = true then
      some (.inr 5)
    else
      some (.inl (a5 + 1))
def fG_labelHindrance_j61 (G : zG) (a3 : Int32) (a4 : Int32) : Option Int32 :=
  iter (fun s => fG_labelHindrance_b66 G a4 s) fu (a3 + 1)
def fG_labelHindrance (G : zG) (a1 : Int32) (a2 : Int32) (a3 : Int32) : Option Int32 :=
  if a1 = 0 then
    some 1
  else
    if (fG_lastOf a1 a2 a3) < 360 then
      bnd (fG_labelMeeting G a2 a3 (fG_lastOf a1 a2 a3)) fun v5 =>
      if v5 = (-1) then
        bnd (rd 9 (gA G 5) a2) fun v7 =>
        if a3 < v7 then
          bnd (rd 9 (gA G 5) a2) fun v8 =>
          if (fG_lastOf a1 a2 a3) < v8 then
            fG_labelHindrance_j61 G a3 (fG_lastOf a1 a2 a3)
          else
            some 4
        else
          fG_labelHindrance_j61 G a3 (fG_lastOf a1 a2 a3)
      else
        some 3
    else
      some 2
def fG_sewLabelOn (G : zG) (a1 : Int32) (a2 : Int32) (a3 : Int32) : Option (Int32 × zG) :=
  if (fG_hasRoomForLabel G) = true then
    bnd (rix 8 (gF G 0 6)) fun p7 =>
    bnd (some (wgF G (18 + p7) 0 a2)) fun G8 =>
    bnd (some (wgF G8 (18 + p7) 1 a3)) fun G9 =>
    bnd (some (wgF G9 (18 + p7) 2 (fG_lastOf a1 a2 a3))) fun G10 =>
    bnd (some (wgB G10 (18 + p7) false)) fun G11 =>
    bnd (some (wgF G11 0 6 ((gF G11 0 6) + 1))) fun G12 =>
    some (((gF G12 0 6) - 1), G12)
  else
    some ((-1), G)
def fX_addLabel_j39 (I : zI) (Y : Nat → Int32) (Γ : Nat → zG) : Option ((Int32 ⊕ String) × zI × (Nat → Int32) × (Nat → zG)) :=
  some (.inr "java/lang/IllegalStateException", I, Y, Γ)
def fX_addLabel (I : zI) (Y : Nat → Int32) (Γ : Nat → zG) (a1 : Int32) (a2 : Int32) : Option ((Int32 ⊕ String) × zI × (Nat → Int32) × (Nat → zG)) :=
  bnx (fX_needPlace a1 a2) (fun _ =>
    bnd (fI_wholeWord I) fun v5 =>
    bnd (fW_letterCount v5) fun v7 =>
    if (fG_hasRoomForLabel (Γ 10)) = true then
      bnd (fG_labelHindrance (Γ 10) v7 a1 a2) fun v9 =>
      if v9 = 0 then
        bnd2 (fY_remember Y Γ 10) fun Y11 Γ12 =>
        bnd (some (wiF I 1 0)) fun I14 =>
        bnd2 (fG_sewLabelOn (Γ12 10) v7 a1 a2) fun v16 G15 =>
        some (.inl v16, I14, Y11, (gup Γ12 10 G15))
      else
        fX_addLabel_j39 I Y Γ
    else
      fX_addLabel_j39 I Y Γ
    ) (fun E3 =>
    some (.inr E3, I, Y, Γ)
    )
def fw_addLabel (I : zI) (Y : Nat → Int32) (Γ : Nat → zG) (ou : Nat → Int64) (j : Nat) (a1 : Int32) (a2 : Int32) : Option (Int32 × zI × (Nat → Int32) × (Nat → zG) × (Nat → Int64) × Nat) :=
  bnd4 (fX_addLabel I Y Γ a1 a2) fun r9 I2 Y3 Γ4 => Sum.elim (fun v7 =>
    bnd (some ((vp_updL ou 0 (Int32.toInt64 v7)))) fun ou8 =>
    some (0, I2, Y3, Γ4, ou8, j)
    ) (fun E6 =>
    if E6 = "java/lang/IllegalArgumentException" then
      some (1, I2, Y3, Γ4, ou, (j + 1))
    else
    if E6 = "java/lang/IllegalStateException" then
      some (2, I2, Y3, Γ4, ou, (j + 1))
    else
      none
    ) r9
def fM_isLetter (a0 : Int32) : Bool :=
  if a0 < 97 then
    false
  else
    if 122 < a0 then
      false
    else
      true
def fM_bufferName_b21 (M : zM) (a1 : Int64) (a3 : Int32) : Option ((Int64 × Int32) ⊕ (Int64)) :=
  if a3 < (mF M 2) then
    bnd (rd 600 (mA M 248) a3) fun v3 =>
    if (fM_isLetter v3) = true then
      bnd (rd 600 (mA M 248) a3) fun v4 =>
      some (.inl (((a1 <<< (Int32.toInt64 5 &&& 63)) ||| (Int32.toInt64 ((v4 - 97) + 1))), (a3 + 1)))
    else
      some (.inr 0)
  else
    some (.inr a1)
def fM_bufferName (M : zM) : Option Int64 :=
  if (fM_isIn (Int32.toInt64 (mF M 2)) 1 8) = true then
    iter (fun s => fM_bufferName_b21 M s.1 s.2) fu (0, 0)
  else
    some 0
def fM_lengthOf_b4 (a2 : Int32) (a3 : Int64) : Option ((Int32 × Int64) ⊕ (Int32)) :=
  if 0 < a3 then
    some (.inl ((a2 + 1), (a3 >>> (Int32.toInt64 5 &&& 63))))
  else
    some (.inr a2)
def fM_lengthOf (a0 : Int64) : Option Int32 :=
  iter (fun s => fM_lengthOf_b4 s.1 s.2) fu (0, a0)
def fM_longBy (a0 : Int32) (a1 : Int32) : Int32 :=
  (a0 * (3 + (fM_gap a1 4)))
def fM_isFree_b3 (M : zM) (a1 : Int32) (a2 : Int32) (a3 : Int32) (a4 : Int32) : Option ((Int32) ⊕ (Bool)) :=
  if a4 < ((mA M 249) 2) then
    bnd (fM_isThere M a4 a1) fun v1 =>
    if v1 = true then
      bnd (fM_its M a4 1) fun v3 =>
      if a3 < v3 then
        some (.inl (a4 + 1))
      else
        bnd (fM_lastOf M a4) fun v5 =>
        if v5 < a2 then
          some (.inl (a4 + 1))
        else
          some (.inr false)
    else
      some (.inl (a4 + 1))
  else
    some (.inr true)
def fM_isFree (M : zM) (a1 : Int32) (a2 : Int32) (a3 : Int32) : Option Bool :=
  iter (fun s => fM_isFree_b3 M a1 a2 a3 s) fu 0
def fM_wouldCrossTorn_b4 (M : zM) (a2 : Int32) (a3 : Int32) : Option ((Int32) ⊕ (Bool)) :=
  if a2 < a3 then
    some (.inr false)
  else
    bnd (fM_isTornAt M a3) fun v1 =>
    if v1 = true then
      some (.inr true)
    else
      some (.inl (a3 + 1))
def fM_wouldCrossTorn (M : zM) (a1 : Int32) (a2 : Int32) : Option Bool :=
  iter (fun s => fM_wouldCrossTorn_b4 M a2 s) fu (a1 + 1)
def fM_labelWhy (M : zM) (a1 : Int64) (a3 : Int32) (a4 : Int32) : Option Int32 :=
  if a1 = 0 then
    some 1
  else
    bnd (fM_lengthOf a1) fun v2 =>
    if ((a4 + (fM_longBy v2 a3)) - 1) < 360 then
      bnd (fM_isFree M a3 a4 ((a4 + (fM_longBy v2 a3)) - 1)) fun v4 =>
      if v4 = true then
        bnd (rd 160 (mA M 249) (5 + a3)) fun v6 =>
        if (fM_isIn (Int32.toInt64 v6) (Int32.toInt64 (a4 + 1)) (Int32.toInt64 ((a4 + (fM_longBy v2 a3)) - 1))) = true then
          some 4
        else
          bnd (fM_wouldCrossTorn M a4 ((a4 + (fM_longBy v2 a3)) - 1)) fun v7 =>
          if v7 = true then
            some 5
          else
            some 0
      else
        some 3
    else
      some 2
def fM_addsLabel (M : zM) (a1 : Int64) (a3 : Int32) (a4 : Int32) : Option (Int32 × zM) :=
  bnd (wr 160 (mA M 249) ((fM_lbl ((mA M 249) 2)) + 0) a3) fun A10 =>
  bnd (some (wmA M 249 A10)) fun M11 =>
  bnd (wr 160 (mA M11 249) ((fM_lbl ((mA M 249) 2)) + 1) a4) fun A12 =>
  bnd (some (wmA M11 249 A12)) fun M13 =>
  bnd (fM_lengthOf a1) fun v14 =>
  bnd (wr 160 (mA M13 249) ((fM_lbl ((mA M 249) 2)) + 2) (fM_longBy v14 a3)) fun A16 =>
  bnd (some (wmA M13 249 A16)) fun M17 =>
  bnd (wr 160 (mA M17 249) ((fM_lbl ((mA M 249) 2)) + 3) 0) fun A18 =>
  bnd (some (wmA M17 249 A18)) fun M19 =>
  bnd (some (wmA M19 249 (upd (mA M19 249) 2 (((mA M19 249) 2) + 1)))) fun M20 =>
  some ((((mA M20 249) 2) - 1), M20)
def fM_addLabel_j46 (M : zM) (a1 : Int32) (a2 : Int32) (a3 : Int64) (a0t : Bool) (a1t : Bool) : Option (Int32 × zM) :=
  bnd2 (fM_goesBoth M a1t a0t) fun v4 M3 =>
  if v4 = true then
    bnd (fM_laysAside M3) fun M6 =>
    bnd (some (wmF M6 2 0)) fun M8 =>
    bnd2 (fM_addsLabel M8 a3 a1 a2) fun v10 M9 =>
    bnd2 (fM_kept M9 v10) fun v13 M12 =>
    some (v13, M12)
  else
    some (0, M3)
def fM_addLabel_j45 (M : zM) (a1 : Int32) (a2 : Int32) (a3 : Int64) (a0t : Bool) : Option (Int32 × zM) :=
  fM_addLabel_j46 M a1 a2 a3 false a0t
def fM_addLabel (M : zM) (a1 : Int32) (a2 : Int32) : Option (Int32 × zM) :=
  bnd (fM_bufferName M) fun v15 =>
  if (fM_isSpotAt a1 a2) = true then
    bnd (fM_labelWhy M v15 a1 a2) fun v17 =>
    if v17 = 0 then
      if ((mA M 249) 2) < 8 then
        fM_addLabel_j46 M a1 a2 v15 true (fM_isSpotAt a1 a2)
      else
        fM_addLabel_j45 M a1 a2 v15 (fM_isSpotAt a1 a2)
    else
      fM_addLabel_j45 M a1 a2 v15 (fM_isSpotAt a1 a2)
  else
    fM_addLabel_j45 M a1 a2 v15 (fM_isSpotAt a1 a2)
def fG_spotNamed_b2 (G : zG) (a1 : Int64) (a3 : Int32) : Option ((Int32) ⊕ (Int32)) :=
  if a3 < (gF G 0 4) then
    bnd (rix 10 a3) fun p3 =>
    if (gN G (7 + p3)) = a1 then
      some (.inr a3)
    else
      some (.inl (a3 + 1))
  else
    some (.inr (-1))
def fG_spotNamed (G : zG) (a1 : Int64) : Option Int32 :=
  iter (fun s => fG_spotNamed_b2 G a1 s) fu 0
def fG_hasRoomForSpot (G : zG) : Bool :=
  if (gF G 0 4) < 10 then
    true
  else
    false
def fG_localDay (G : zG) (a1 : Int32) (a2 : Int32) : Option Int32 :=
  bnd (fG_localHours G a1 a2) fun v1 =>
  bnd (fJ_floorDiv_7cf53 v1 24) fun v3 =>
  some v3
def fG_settle (G : zG) (a1 : Int64) (a3 : Int32) (a4 : Int32) (a5 : Bool) : Option (Int32 × zG) :=
  if (fG_hasRoomForSpot G) = true then
    bnd (rix 10 (gF G 0 4)) fun p11 =>
    bnd (some (wgN G (7 + p11) a1)) fun G12 =>
    bnd (some (wgB G12 (7 + p11) a5)) fun G13 =>
    bnd (some (wgF G13 (7 + p11) 2 a3)) fun G14 =>
    bnd (some (wgF G14 (7 + p11) 3 a4)) fun G15 =>
    bnd (fG_localDay G15 a3 a4) fun v16 =>
    bnd (some (wgF G15 (7 + p11) 4 v16)) fun G18 =>
    bnd (some (wgF G18 (7 + p11) 5 0)) fun G19 =>
    bnd (some (wgF G19 (7 + p11) 6 0)) fun G20 =>
    bnd (some (wgF G20 (7 + p11) 7 0)) fun G21 =>
    bnd (some (wgF G21 0 4 ((gF G21 0 4) + 1))) fun G22 =>
    some (((gF G22 0 4) - 1), G22)
  else
    some ((-1), G)
def fX_nameSpot_j44 (I : zI) (Y : Nat → Int32) (Γ : Nat → zG) : Option ((Int32 ⊕ String) × zI × (Nat → Int32) × (Nat → zG)) :=
  some (.inr "java/lang/IllegalStateException", I, Y, Γ)
def fX_nameSpot (I : zI) (Y : Nat → Int32) (Γ : Nat → zG) (a1 : Int32) (a2 : Int32) (a3 : Bool) : Option ((Int32 ⊕ String) × zI × (Nat → Int32) × (Nat → zG)) :=
  bnx (fX_needPlace a1 a2) (fun _ =>
    bnd (fI_wholeWord I) fun v5 =>
    if v5 = 0 then
      fX_nameSpot_j44 I Y Γ
    else
      bnd (fG_spotNamed (Γ 10) v5) fun v7 =>
      if v7 = (-1) then
        if (fG_hasRoomForSpot (Γ 10)) = true then
          bnd2 (fY_remember Y Γ 10) fun Y9 Γ10 =>
          bnd (some (wiF I 1 0)) fun I12 =>
          bnd2 (fG_settle (Γ10 10) v5 a1 a2 a3) fun v14 G13 =>
          some (.inl v14, I12, Y9, (gup Γ10 10 G13))
        else
          fX_nameSpot_j44 I Y Γ
      else
        fX_nameSpot_j44 I Y Γ
    ) (fun E3 =>
    some (.inr E3, I, Y, Γ)
    )
def fX_addTraveller (I : zI) (Y : Nat → Int32) (Γ : Nat → zG) (a1 : Int32) (a2 : Int32) : Option ((Int32 ⊕ String) × zI × (Nat → Int32) × (Nat → zG)) :=
  bnd4 (fX_nameSpot I Y Γ a1 a2 true) fun r7 I1 Y2 Γ3 => Sum.elim (fun v6 =>
    some (.inl v6, I1, Y2, Γ3)
    ) (fun E5 =>
    some (.inr E5, I1, Y2, Γ3)
    ) r7
def fw_addTraveller (I : zI) (Y : Nat → Int32) (Γ : Nat → zG) (ou : Nat → Int64) (j : Nat) (a1 : Int32) (a2 : Int32) : Option (Int32 × zI × (Nat → Int32) × (Nat → zG) × (Nat → Int64) × Nat) :=
  bnd4 (fX_addTraveller I Y Γ a1 a2) fun r9 I2 Y3 Γ4 => Sum.elim (fun v7 =>
    bnd (some ((vp_updL ou 0 (Int32.toInt64 v7)))) fun ou8 =>
    some (0, I2, Y3, Γ4, ou8, j)
    ) (fun E6 =>
    if E6 = "java/lang/IllegalArgumentException" then
      some (1, I2, Y3, Γ4, ou, (j + 1))
    else
    if E6 = "java/lang/IllegalStateException" then
      some (2, I2, Y3, Γ4, ou, (j + 1))
    else
      none
    ) r9
def fM_nameOf (M : zM) (a1 : Int32) : Option Int64 :=
  bnd (fM_of M a1 0) fun v1 =>
  bnd (fM_of M a1 1) fun v3 =>
  some (((Int32.toInt64 v1) <<< (Int32.toInt64 20 &&& 63)) ||| (Int32.toInt64 v3))
def fM_spotNamed_b2 (M : zM) (a1 : Int64) (a3 : Int32) : Option ((Int32) ⊕ (Int32)) :=
  if a3 < ((mA M 249) 1) then
    bnd (fM_nameOf M a3) fun v1 =>
    if v1 = a1 then
      some (.inr a3)
    else
      some (.inl (a3 + 1))
  else
    some (.inr (-1))
def fM_spotNamed (M : zM) (a1 : Int64) : Option Int32 :=
  iter (fun s => fM_spotNamed_b2 M a1 s) fu 0
def fM_mayAdd (M : zM) (a1 : Int64) : Option Bool :=
  if a1 = 0 then
    some false
  else
    bnd (fM_spotNamed M a1) fun v1 =>
    if v1 = (-1) then
      if ((mA M 249) 1) < 10 then
        some true
      else
        some false
    else
      some false
def fM_addsSpot_b18 (a1 : Int64) (a3 : Int32) (a4 : Int32) (a5 : Int32) (a6 : Int32) (a7 : Int32) (M : zM) (a8 : Int32) : Option ((zM × Int32) ⊕ (Int32 × zM)) :=
  if a8 < 9 then
    bnd (wr 160 (mA M 249) (a7 + a8) 0) fun A46 =>
    bnd (some (wmA M 249 A46)) fun M47 =>
    some (.inl (M47, (a8 + 1)))
  else
    bnd (wr 160 (mA M 249) (a7 + 0) (Int64.toInt32 (a1 >>> (Int32.toInt64 20 &&& 63)))) fun A31 =>
    bnd (some (wmA M 249 A31)) fun M32 =>
    bnd (wr 160 (mA M32 249) (a7 + 1) (Int64.toInt32 (a1 &&& 1048575))) fun A33 =>
    bnd (some (wmA M32 249 A33)) fun M34 =>
    bnd (wr 160 (mA M34 249) (a7 + 2) a3) fun A35 =>
    bnd (some (wmA M34 249 A35)) fun M36 =>
    bnd (wr 160 (mA M36 249) (a7 + 3) a4) fun A37 =>
    bnd (some (wmA M36 249 A37)) fun M38 =>
    bnd (wr 160 (mA M38 249) (a7 + 4) a5) fun A39 =>
    bnd (some (wmA M38 249 A39)) fun M40 =>
    bnd (fM_localDay M40 a4 a5) fun v41 =>
    bnd (wr 160 (mA M40 249) (a7 + 5) v41) fun A43 =>
    bnd (some (wmA M40 249 A43)) fun M44 =>
    bnd (some (wmA M44 249 (upd (mA M44 249) 1 (((mA M44 249) 1) + 1)))) fun M45 =>
    some (.inr (a6, M45))
def fM_addsSpot (M : zM) (a1 : Int64) (a3 : Int32) (a4 : Int32) (a5 : Int32) : Option (Int32 × zM) :=
  iter (fun s => fM_addsSpot_b18 a1 a3 a4 a5 ((mA M 249) 1) (fM_spt ((mA M 249) 1)) s.1 s.2) fu (M, 0)
def fM_addsBy (M : zM) (a1 : Int32) (a2 : Int32) (a3 : Int32) : Option (Int32 × zM) :=
  bnd (fM_bufferName M) fun v2 =>
  bnd (fM_mayAdd M v2) fun v4 =>
  bnd2 (fM_goesBoth M (fM_isSpotAt a2 a3) v4) fun v7 M6 =>
  if v7 = true then
    bnd (fM_laysAside M6) fun M9 =>
    bnd (some (wmF M9 2 0)) fun M11 =>
    bnd2 (fM_addsSpot M11 v2 a1 a2 a3) fun v13 M12 =>
    bnd2 (fM_kept M12 v13) fun v16 M15 =>
    some (v16, M15)
  else
    some (0, M6)
def fM_addTraveller (M : zM) (a1 : Int32) (a2 : Int32) : Option (Int32 × zM) :=
  bnd2 (fM_addsBy M 1 a1 a2) fun v2 M1 =>
  some (v2, M1)
def fX_addTown (I : zI) (Y : Nat → Int32) (Γ : Nat → zG) (a1 : Int32) (a2 : Int32) : Option ((Int32 ⊕ String) × zI × (Nat → Int32) × (Nat → zG)) :=
  bnd4 (fX_nameSpot I Y Γ a1 a2 false) fun r7 I1 Y2 Γ3 => Sum.elim (fun v6 =>
    some (.inl v6, I1, Y2, Γ3)
    ) (fun E5 =>
    some (.inr E5, I1, Y2, Γ3)
    ) r7
def fw_addTown (I : zI) (Y : Nat → Int32) (Γ : Nat → zG) (ou : Nat → Int64) (j : Nat) (a1 : Int32) (a2 : Int32) : Option (Int32 × zI × (Nat → Int32) × (Nat → zG) × (Nat → Int64) × Nat) :=
  bnd4 (fX_addTown I Y Γ a1 a2) fun r9 I2 Y3 Γ4 => Sum.elim (fun v7 =>
    bnd (some ((vp_updL ou 0 (Int32.toInt64 v7)))) fun ou8 =>
    some (0, I2, Y3, Γ4, ou8, j)
    ) (fun E6 =>
    if E6 = "java/lang/IllegalArgumentException" then
      some (1, I2, Y3, Γ4, ou, (j + 1))
    else
    if E6 = "java/lang/IllegalStateException" then
      some (2, I2, Y3, Γ4, ou, (j + 1))
    else
      none
    ) r9
def fM_addTown (M : zM) (a1 : Int32) (a2 : Int32) : Option (Int32 × zM) :=
  bnd2 (fM_addsBy M 0 a1 a2) fun v2 M1 =>
  some (v2, M1)
def fL_coveredIn (G : zG) (p0 : Nat) (a1 : Int32) : Int32 :=
  if (gB G (18 + p0)) = true then
    0
  else
    if (gF G (18 + p0) 0) = a1 then
      (((gF G (18 + p0) 2) - (gF G (18 + p0) 1)) + 1)
    else
      0
def fX_labelShare_b8 (Γ : Nat → zG) (a1 : Int32) (a2 : Int32) (a3 : Int32) : Option ((Int32 × Int32) ⊕ ((UInt32 ⊕ String))) :=
  if a3 < (gF (Γ 10) 0 6) then
    bnd (rix 8 a3) fun p6 =>
    some (.inl ((a2 + (fL_coveredIn (Γ 10) p6 a1)), (a3 + 1)))
  else
    bnd (zfdiv (FP.i2f a2) 1135869952) fun v5 =>
    some (.inr (.inl v5))
def fX_labelShare (Γ : Nat → zG) (a1 : Int32) : Option ((UInt32 ⊕ String)) :=
  bnx (fX_needBand a1) (fun _ =>
    iter (fun s => fX_labelShare_b8 Γ a1 s.1 s.2) fu (0, 0)
    ) (fun E8 =>
    some (.inr E8)
    )
def fw_labelShare (Γ : Nat → zG) (od : Nat → UInt64) (j : Nat) (a1 : Int32) : Option (Int32 × (Nat → UInt64) × Nat) :=
  bnx (fX_labelShare Γ a1) (fun v5 =>
    bnd (zf2d v5) fun v6 =>
    bnd (some ((vf_upd od 0 v6))) fun od7 =>
    some (0, od7, j)
    ) (fun E4 =>
    if E4 = "java/lang/IllegalArgumentException" then
      some (1, od, (j + 1))
    else
      none
    )
def fM_covered_j27 (M : zM) (a1 : Int32) (a3 : Int32) (a0t : Bool) (a1t : Int32) : Option ((Int32 × Int32) ⊕ (Int32)) :=
  some (.inl ((a1t + (fM_truth a0t)), (a3 + 1)))
def fM_covered_b4 (M : zM) (a1 : Int32) (a2 : Int32) (a3 : Int32) : Option ((Int32 × Int32) ⊕ (Int32)) :=
  if a3 < 360 then
    bnd (fM_labelOn M a1 a3) fun v1 =>
    if v1 = (-1) then
      fM_covered_j27 M a1 a3 false a2
    else
      fM_covered_j27 M a1 a3 true a2
  else
    some (.inr a2)
def fM_covered (M : zM) (a1 : Int32) : Option Int32 :=
  iter (fun s => fM_covered_b4 M a1 s.1 s.2) fu (0, 0)
def fM_labelShare (M : zM) (a1 : Int32) : Option (UInt32 × zM) :=
  bnd2 (fM_goes M (fM_isBand a1)) fun v3 M2 =>
  if v3 = true then
    bnd (fM_covered M2 a1) fun v5 =>
    bnd (zfdiv (FP.i2f v5) 1135869952) fun v7 =>
    some (v7, M2)
  else
    some (FP.fconst0, M2)
def fX_meanStitches_b12 (Γ : Nat → zG) (a2 : Int32) (a3 : Int32) : Option ((Int32 × Int32) ⊕ (UInt64)) :=
  if a3 < (gF (Γ 10) 1 0) then
    bnd (rd 12 (gA (Γ 10) 4) a3) fun v5 =>
    some (.inl ((a2 + v5), (a3 + 1)))
  else
    bnd (zddiv (FP.i2d a2) (FP.i2d (gF (Γ 10) 1 0))) fun v4 =>
    some (.inr v4)
def fX_meanStitches (Γ : Nat → zG) : Option UInt64 :=
  iter (fun s => fX_meanStitches_b12 Γ s.1 s.2) fu (0, 0)
def fM_meanStitches_b9 (M : zM) (a1 : Int32) (a2 : Int32) : Option ((Int32 × Int32) ⊕ (UInt64 × zM)) :=
  if a2 < ((mA M 249) 0) then
    bnd (rd 160 (mA M 249) (26 + a2)) fun v7 =>
    some (.inl ((a1 + v7), (a2 + 1)))
  else
    bnd (zddiv (FP.i2d a1) (FP.i2d ((mA M 249) 0))) fun v6 =>
    some (.inr (v6, M))
def fM_meanStitches (M : zM) : Option (UInt64 × zM) :=
  bnd (some (wmF M 0 0)) fun M8 =>
  iter (fun s => fM_meanStitches_b9 M8 s.1 s.2) fu (0, 0)
def fG_countWrongDiaries_b4 (G : zG) (a1 : Int32) (a2 : Int32) : Option ((Int32 × Int32) ⊕ (Int32)) :=
  if a2 < (gF G 0 4) then
    bnd (rix 10 a2) fun p3 =>
    if (gB G (7 + p3)) = true then
      bnd (fG_localDay G (gF G (7 + p3) 2) (gF G (7 + p3) 3)) fun v4 =>
      if (gF G (7 + p3) 4) = v4 then
        some (.inl (a1, (a2 + 1)))
      else
        some (.inl ((a1 + 1), (a2 + 1)))
    else
      some (.inl (a1, (a2 + 1)))
  else
    some (.inr a1)
def fG_countWrongDiaries (G : zG) : Option Int32 :=
  iter (fun s => fG_countWrongDiaries_b4 G s.1 s.2) fu (0, 0)
def fG_countWrongDays_b4 (G : zG) (a1 : Int32) (a2 : Int32) : Option ((Int32 × Int32) ⊕ (Int32)) :=
  if a2 < 9 then
    bnd (rd 9 (gA G 5) a2) fun v3 =>
    bnd (fJ_floorDiv_7cf53 v3 15) fun v4 =>
    bnd (fJ_floorDiv_7cf53 ((gF G 0 2) + v4) 24) fun v6 =>
    bnd (rd 9 (gA G 5) a2) fun v8 =>
    bnd (fG_localDay G a2 v8) fun v9 =>
    if v9 = (v6 - 1) then
      some (.inl (a1, (a2 + 1)))
    else
      some (.inl ((a1 + 1), (a2 + 1)))
  else
    some (.inr a1)
def fG_countWrongDays (G : zG) : Option Int32 :=
  iter (fun s => fG_countWrongDays_b4 G s.1 s.2) fu (0, 0)
def fG_countWrongLabels_b39 (G : zG) (a1 : Int32) (a2 : Int32) (a3 : Bool) (a4 : Int32) : Option ((Bool × Int32) ⊕ ((Int32 × Int32) ⊕ (Int32))) :=
  if a4 < (gF G 1 0) then
    if a3 = true then
      some (.inl (true, (a4 + 1)))
    else
      bnd (fC_isTorn G a4) fun v15 =>
      if v15 = true then
        bnd (rix 8 a2) fun p17 =>
        bnd (rd 12 (gA G 3) a4) fun v18 =>
        if (fL_crosses G p17 v18) = true then
          some (.inl (true, (a4 + 1)))
        else
          some (.inl (false, (a4 + 1)))
      else
        some (.inl (false, (a4 + 1)))
  else
    if a3 = true then
      some (.inr (.inl ((a1 + 1), (a2 + 1))))
    else
      some (.inr (.inl (a1, (a2 + 1))))
def fG_countWrongLabels_b4 (G : zG) (a1 : Int32) (a2 : Int32) : Option ((Int32 × Int32) ⊕ (Int32)) :=
  if a2 < (gF G 0 6) then
    bnd (rix 8 a2) fun p12 =>
    bnd (rix 8 a2) fun p13 =>
    bnd (rd 9 (gA G 5) (gF G (18 + p13) 0)) fun v14 =>
    iter (fun s => fG_countWrongLabels_b39 G a1 a2 s.1 s.2) fu ((fL_crosses G p12 v14), 0)
  else
    some (.inr a1)
def fG_countWrongLabels (G : zG) : Option Int32 :=
  iter (fun s => fG_countWrongLabels_b4 G s.1 s.2) fu (0, 0)
def fG_countWideHems_b4 (G : zG) (a1 : Int32) (a2 : Int32) : Option ((Int32 × Int32) ⊕ (Int32)) :=
  if a2 < 8 then
    bnd (rd 9 (gA G 5) a2) fun v4 =>
    bnd (rd 9 (gA G 5) (a2 + 1)) fun v5 =>
    if (fG_isWide v4 v5) = true then
      some (.inl ((a1 + 1), (a2 + 1)))
    else
      some (.inl (a1, (a2 + 1)))
  else
    some (.inr a1)
def fG_countWideHems (G : zG) : Option Int32 :=
  iter (fun s => fG_countWideHems_b4 G s.1 s.2) fu (0, 0)
def fX_violations (Γ : Nat → zG) : Option Int32 :=
  bnd (fG_countWrongDiaries (Γ 10)) fun v1 =>
  bnd (fG_countWrongDays (Γ 10)) fun v3 =>
  bnd (fG_countWrongLabels (Γ 10)) fun v5 =>
  bnd (fG_countWideHems (Γ 10)) fun v7 =>
  some (((v1 + v3) + v5) + v7)
def fM_dayNow (M : zM) (a1 : Int32) : Option Int32 :=
  bnd (fM_of M a1 3) fun v1 =>
  bnd (fM_of M a1 4) fun v3 =>
  bnd (fM_localDay M v1 v3) fun v5 =>
  some v5
def fM_isStrangeBand (M : zM) (a1 : Int32) : Option Bool :=
  bnd (rd 160 (mA M 249) (5 + a1)) fun v2 =>
  bnd (fM_floored v2 15) fun v3 =>
  bnd (fM_floored (((mA M 249) 4) + v3) 24) fun v5 =>
  bnd (fM_localDay M a1 v2) fun v7 =>
  if v7 = (v5 - 1) then
    some false
  else
    some true
def fM_isStrangeLabel (M : zM) (a1 : Int32) : Option Bool :=
  bnd (fM_its M a1 3) fun v2 =>
  if v2 = 1 then
    some false
  else
    bnd (fM_its M a1 0) fun v4 =>
    bnd (rd 160 (mA M 249) (5 + v4)) fun v6 =>
    bnd (fM_crosses M a1 v6) fun v7 =>
    if v7 = true then
      some true
    else
      bnd (fM_its M a1 1) fun v9 =>
      bnd (fM_lastOf M a1) fun v11 =>
      bnd (fM_wouldCrossTorn M v9 v11) fun v13 =>
      if v13 = true then
        some true
      else
        some false
def fM_told (M : zM) (a1 : Int32) : Option (Int32 × zM) :=
  bnd (some (wmF M 0 0)) fun M2 =>
  some (a1, M2)
def fM_violations_j42 (M : zM) (a2 : Int32) (a0t : Bool) (a1t : Int32) : Option ((Int32 × Int32) ⊕ (Int32 × zM)) :=
  some (.inl ((a1t + (fM_truth a0t)), (a2 + 1)))
def fM_violations_j41 (M : zM) (a2 : Int32) (a0t : Int32) : Option ((Int32 × Int32) ⊕ (Int32 × zM)) :=
  fM_violations_j42 M a2 false a0t
def fM_violations_b99 (M : zM) (a1 : Int32) (a2 : Int32) : Option ((Int32 × Int32) ⊕ (Int32 × zM)) :=
  if a2 < ((mA M 249) 2) then
    bnd (fM_isStrangeLabel M a2) fun v17 =>
    some (.inl ((a1 + (fM_truth v17)), (a2 + 1)))
  else
    bnd2 (fM_told M a1) fun v15 M14 =>
    some (.inr (v15, M14))
def fM_violations_b55 (M : zM) (a1 : Int32) (a2 : Int32) : Option ((Int32 × Int32) ⊕ (Int32 × zM)) :=
  if a2 < 9 then
    bnd (fM_isStrangeBand M a2) fun v9 =>
    bnd (rd 160 (mA M 249) (5 + a2)) fun v11 =>
    bnd (fM_isFar M (a2 + 1) v11) fun v12 =>
    some (.inl ((a1 + ((fM_truth v9) + (fM_truth v12))), (a2 + 1)))
  else
    Option.map .inr (iter (fun s => fM_violations_b99 M s.1 s.2) fu (a1, 0))
def fM_violations_b4 (M : zM) (a1 : Int32) (a2 : Int32) : Option ((Int32 × Int32) ⊕ (Int32 × zM)) :=
  if a2 < ((mA M 249) 1) then
    bnd (fM_travels M a2) fun v3 =>
    if v3 = true then
      bnd (fM_of M a2 5) fun v5 =>
      bnd (fM_dayNow M a2) fun v7 =>
      if v5 = v7 then
        fM_violations_j41 M a2 a1
      else
        fM_violations_j42 M a2 true a1
    else
      fM_violations_j41 M a2 a1
  else
    Option.map .inr (iter (fun s => fM_violations_b55 M s.1 s.2) fu (a1, 0))
def fM_violations (M : zM) : Option (Int32 × zM) :=
  iter (fun s => fM_violations_b4 M s.1 s.2) fu (0, 0)
def fX_needSpot (Γ : Nat → zG) (a1 : Int32) : Option ((Unit ⊕ String)) :=
  if (fG_hasSpot (Γ 10) a1) = true then
    some (.inl ())
  else
    some (.inr "java/lang/IndexOutOfBoundsException")
def fX_meridianAfter_j16 (Γ : Nat → zG) : Option ((Int32 ⊕ String) × (Nat → zG)) :=
  some (.inr "java/lang/IllegalArgumentException", Γ)
def fX_meridianAfter (Γ : Nat → zG) (a1 : Int32) (a2 : Int32) : Option ((Int32 ⊕ String) × (Nat → zG)) :=
  bnx (fX_needSpot Γ a1) (fun _ =>
    if a2 < 0 then
      fX_meridianAfter_j16 Γ
    else
      if 300 < a2 then
        fX_meridianAfter_j16 Γ
      else
        bnd (fG_copyFrom (Γ 36) (Γ 10)) fun G5 =>
        bnd2 (fG_letPass ((gup Γ 36 G5) 36) a2) fun v8 G7 =>
        bnd (rix 10 a1) fun p10 =>
        some (.inl (gF ((gup (gup Γ 36 G5) 36 G7) 36) (7 + p10) 3), (gup (gup Γ 36 G5) 36 G7))
    ) (fun E3 =>
    some (.inr E3, Γ)
    )
def fw_meridianAfter (Γ : Nat → zG) (ou : Nat → Int64) (j : Nat) (a1 : Int32) (a2 : Int32) : Option (Int32 × (Nat → zG) × (Nat → Int64) × Nat) :=
  bnd2 (fX_meridianAfter Γ a1 a2) fun r7 Γ2 => Sum.elim (fun v5 =>
    bnd (some ((vp_updL ou 0 (Int32.toInt64 v5)))) fun ou6 =>
    some (0, Γ2, ou6, j)
    ) (fun E4 =>
    if E4 = "java/lang/IndexOutOfBoundsException" then
      some (1, Γ2, ou, (j + 1))
    else
    if E4 = "java/lang/IllegalArgumentException" then
      some (2, Γ2, ou, (j + 1))
    else
      none
    ) r7
def fM_holds (M : zM) : Option zM :=
  bnd (fM_copiesRow M 249 0 252 0) fun M1 =>
  some M1
def fM_putBack (M : zM) (a1 : Int32) : Option (Int32 × zM) :=
  bnd (fM_copiesRow M 252 0 249 0) fun M1 =>
  some (a1, M1)
def fM_meridianAfter (M : zM) (a1 : Int32) (a2 : Int32) : Option (Int32 × zM) :=
  bnd2 (fM_goesBoth M (fM_isSpot M a1) (fM_isIn (Int32.toInt64 a2) 0 300)) fun v3 M2 =>
  if v3 = true then
    bnd (fM_holds M2) fun M5 =>
    bnd2 (fM_passes M5 a2) fun v8 M7 =>
    bnd (some (wmF M7 29 v8)) fun M10 =>
    bnd (fM_of M10 a1 4) fun v11 =>
    bnd2 (fM_putBack M10 v11) fun v14 M13 =>
    some (v14, M13)
  else
    some (0, M2)
def fX_needGore (Γ : Nat → zG) (a1 : Int32) : Option ((Unit ⊕ String)) :=
  if (fC_hasGore (Γ 10) a1) = true then
    some (.inl ())
  else
    some (.inr "java/lang/IndexOutOfBoundsException")
def fC_wearAll_b2 (G : zG) (a1 : Int32) : Option ((zG × Int32) ⊕ (zG)) :=
  if a1 < (gF G 1 0) then
    bnd2 (fC_wear G a1) fun v2 G1 =>
    some (.inl (G1, (a1 + 1)))
  else
    some (.inr G)
def fC_wearAll (G : zG) : Option zG :=
  iter (fun s => fC_wearAll_b2 s.1 s.2) fu (G, 0)
def fX_hoursUntilTear_b42 (a1 : Int32) (Γ : Nat → zG) (a3 : Int32) : Option (((Nat → zG) × Int32) ⊕ ((Int32 ⊕ String) × (Nat → zG))) :=
  if 300 < a3 then
    some (.inr (.inl (-1), Γ))
  else
    if (fG_isWearing ((gF (Γ 10) 0 2) + a3)) = true then
      bnd (fC_wearAll (Γ 36)) fun G1 =>
      bnd (fC_isTorn ((gup Γ 36 G1) 36) a1) fun v3 =>
      if v3 = true then
        some (.inr (.inl a3, (gup Γ 36 G1)))
      else
        some (.inl ((gup Γ 36 G1), (a3 + 1)))
    else
      some (.inl (Γ, (a3 + 1)))
def fX_hoursUntilTear (Γ : Nat → zG) (a1 : Int32) : Option ((Int32 ⊕ String) × (Nat → zG)) :=
  bnx (fX_needGore Γ a1) (fun _ =>
    bnd (fC_isTorn (Γ 10) a1) fun v8 =>
    if v8 = true then
      some (.inl 0, Γ)
    else
      bnd (fC_copyFrom (Γ 36) (Γ 10)) fun G10 =>
      iter (fun s => fX_hoursUntilTear_b42 a1 s.1 s.2) fu ((gup Γ 36 G10), 1)
    ) (fun E6 =>
    some (.inr E6, Γ)
    )
def fw_hoursUntilTear (Γ : Nat → zG) (ou : Nat → Int64) (j : Nat) (a1 : Int32) : Option (Int32 × (Nat → zG) × (Nat → Int64) × Nat) :=
  bnd2 (fX_hoursUntilTear Γ a1) fun r7 Γ2 => Sum.elim (fun v5 =>
    bnd (some ((vp_updL ou 0 (Int32.toInt64 v5)))) fun ou6 =>
    some (0, Γ2, ou6, j)
    ) (fun E4 =>
    if E4 = "java/lang/IndexOutOfBoundsException" then
      some (1, Γ2, ou, (j + 1))
    else
      none
    ) r7
def fM_untilTorn_b2 (a1 : Int32) (M : zM) (a2 : Int32) : Option ((zM × Int32) ⊕ (Int32 × zM)) :=
  if 300 < a2 then
    some (.inr ((-1), M))
  else
    bnd (fM_isTornSeam M a1) fun v3 =>
    if v3 = true then
      some (.inr (a2, M))
    else
      bnd2 (fM_passesOne M) fun v6 M5 =>
      bnd (some (wmF M5 29 v6)) fun M8 =>
      some (.inl (M8, (a2 + 1)))
def fM_untilTorn (M : zM) (a1 : Int32) : Option (Int32 × zM) :=
  iter (fun s => fM_untilTorn_b2 a1 s.1 s.2) fu (M, 0)
def fM_hoursUntilTear (M : zM) (a1 : Int32) : Option (Int32 × zM) :=
  bnd2 (fM_goes M (fM_isGore M a1)) fun v2 M1 =>
  if v2 = true then
    bnd (fM_holds M1) fun M4 =>
    bnd2 (fM_untilTorn M4 a1) fun v7 M6 =>
    bnd2 (fM_putBack M6 v7) fun v10 M9 =>
    some (v10, M9)
  else
    some (0, M1)
def fX_stepObstacle (Γ : Nat → zG) (a1 : Int32) (a2 : Int32) : Option ((Int32 ⊕ String)) :=
  bnx (fX_needSpot Γ a1) (fun _ =>
    if (fX_isDirection a2) = true then
      bnd (rix 10 a1) fun p5 =>
      bnd (fG_stepHindrance (Γ 10) p5 a2) fun v6 =>
      some (.inl v6)
    else
      some (.inr "java/lang/IllegalArgumentException")
    ) (fun E3 =>
    some (.inr E3)
    )
def fw_stepObstacle (Γ : Nat → zG) (ou : Nat → Int64) (j : Nat) (a1 : Int32) (a2 : Int32) : Option (Int32 × (Nat → Int64) × Nat) :=
  bnx (fX_stepObstacle Γ a1 a2) (fun v4 =>
    bnd (some ((vp_updL ou 0 (Int32.toInt64 v4)))) fun ou5 =>
    some (0, ou5, j)
    ) (fun E3 =>
    if E3 = "java/lang/IndexOutOfBoundsException" then
      some (1, ou, (j + 1))
    else
    if E3 = "java/lang/IllegalArgumentException" then
      some (2, ou, (j + 1))
    else
      none
    )
def fM_stepObstacle (M : zM) (a1 : Int32) (a2 : Int32) : Option (Int32 × zM) :=
  bnd2 (fM_goesBoth M (fM_isSpot M a1) (fM_isIn (Int32.toInt64 a2) 0 1)) fun v2 M1 =>
  if v2 = true then
    bnd (fM_stepWhy M1 a1 a2) fun v4 =>
    some (v4, M1)
  else
    some (0, M1)
def fX_labelObstacle (I : zI) (Γ : Nat → zG) (a1 : Int32) (a2 : Int32) : Option ((Int32 ⊕ String)) :=
  bnx (fX_needPlace a1 a2) (fun _ =>
    bnd (fI_wholeWord I) fun v4 =>
    bnd (fW_letterCount v4) fun v6 =>
    bnd (fG_labelHindrance (Γ 10) v6 a1 a2) fun v8 =>
    some (.inl v8)
    ) (fun E2 =>
    some (.inr E2)
    )
def fw_labelObstacle (I : zI) (Γ : Nat → zG) (ou : Nat → Int64) (j : Nat) (a1 : Int32) (a2 : Int32) : Option (Int32 × (Nat → Int64) × Nat) :=
  bnx (fX_labelObstacle I Γ a1 a2) (fun v4 =>
    bnd (some ((vp_updL ou 0 (Int32.toInt64 v4)))) fun ou5 =>
    some (0, ou5, j)
    ) (fun E3 =>
    if E3 = "java/lang/IllegalArgumentException" then
      some (1, ou, (j + 1))
    else
      none
    )
def fM_labelObstacle (M : zM) (a1 : Int32) (a2 : Int32) : Option (Int32 × zM) :=
  bnd2 (fM_goes M (fM_isSpotAt a1 a2)) fun v2 M1 =>
  if v2 = true then
    bnd (fM_bufferName M1) fun v4 =>
    bnd (fM_labelWhy M1 v4 a1 a2) fun v6 =>
    some (v6, M1)
  else
    some (0, M1)
def fX_hemObstacle (Γ : Nat → zG) (a1 : Int32) (a2 : Int32) : Option ((Int32 ⊕ String)) :=
  bnx (fX_needPlace a1 a2) (fun _ =>
    bnd (fG_hemHindrance (Γ 10) a1 a2) fun v4 =>
    some (.inl v4)
    ) (fun E2 =>
    some (.inr E2)
    )
def fw_hemObstacle (Γ : Nat → zG) (ou : Nat → Int64) (j : Nat) (a1 : Int32) (a2 : Int32) : Option (Int32 × (Nat → Int64) × Nat) :=
  bnx (fX_hemObstacle Γ a1 a2) (fun v4 =>
    bnd (some ((vp_updL ou 0 (Int32.toInt64 v4)))) fun ou5 =>
    some (0, ou5, j)
    ) (fun E3 =>
    if E3 = "java/lang/IllegalArgumentException" then
      some (1, ou, (j + 1))
    else
      none
    )
def fM_hemObstacle (M : zM) (a1 : Int32) (a2 : Int32) : Option (Int32 × zM) :=
  bnd2 (fM_goes M (fM_isSpotAt a1 a2)) fun v2 M1 =>
  if v2 = true then
    bnd (fM_hemWhy M1 a1 a2) fun v4 =>
    some (v4, M1)
  else
    some (0, M1)
def fX_labelAt (Γ : Nat → zG) (a1 : Int32) (a2 : Int32) : Option ((Int32 ⊕ String)) :=
  bnx (fX_needPlace a1 a2) (fun _ =>
    bnd (fG_labelMeeting (Γ 10) a1 a2 a2) fun v4 =>
    some (.inl v4)
    ) (fun E2 =>
    some (.inr E2)
    )
def fw_labelAt (Γ : Nat → zG) (ou : Nat → Int64) (j : Nat) (a1 : Int32) (a2 : Int32) : Option (Int32 × (Nat → Int64) × Nat) :=
  bnx (fX_labelAt Γ a1 a2) (fun v4 =>
    bnd (some ((vp_updL ou 0 (Int32.toInt64 v4)))) fun ou5 =>
    some (0, ou5, j)
    ) (fun E3 =>
    if E3 = "java/lang/IllegalArgumentException" then
      some (1, ou, (j + 1))
    else
      none
    )
def fM_labelAt (M : zM) (a1 : Int32) (a2 : Int32) : Option (Int32 × zM) :=
  bnd2 (fM_goes M (fM_isSpotAt a1 a2)) fun v2 M1 =>
  if v2 = true then
    bnd (fM_labelOn M1 a1 a2) fun v4 =>
    some (v4, M1)
  else
    some (0, M1)
def fX_needLabel_j15 (Γ : Nat → zG) : Option ((Unit ⊕ String)) :=
  some (.inr "java/lang/IndexOutOfBoundsException")
def fX_needLabel (Γ : Nat → zG) (a1 : Int32) : Option ((Unit ⊕ String)) :=
  if a1 < 0 then
    fX_needLabel_j15 Γ
  else
    if a1 < (gF (Γ 10) 0 6) then
      some (.inl ())
    else
      fX_needLabel_j15 Γ
def fX_isLabelTorn (Γ : Nat → zG) (a1 : Int32) : Option ((Bool ⊕ String)) :=
  bnx (fX_needLabel Γ a1) (fun _ =>
    bnd (rix 8 a1) fun p5 =>
    some (.inl (gB (Γ 10) (18 + p5)))
    ) (fun E3 =>
    some (.inr E3)
    )
def fw_isLabelTorn_j15 (Γ : Nat → zG) (ou : Nat → Int64) (j : Nat) (a0t : Int64) : Option (Int32 × (Nat → Int64) × Nat) :=
  bnd (some ((vp_updL ou 0 a0t))) fun ou3 =>
  some (0, ou3, j)
def fw_isLabelTorn (Γ : Nat → zG) (ou : Nat → Int64) (j : Nat) (a1 : Int32) : Option (Int32 × (Nat → Int64) × Nat) :=
  bnx (fX_isLabelTorn Γ a1) (fun v6 =>
    if v6 = true then
      fw_isLabelTorn_j15 Γ ou j 1
    else
      fw_isLabelTorn_j15 Γ ou j 0
    ) (fun E5 =>
    if E5 = "java/lang/IndexOutOfBoundsException" then
      some (1, ou, (j + 1))
    else
      none
    )
def fM_isLabel (M : zM) (a1 : Int32) : Bool :=
  (fM_isIn (Int32.toInt64 a1) 0 (Int32.toInt64 (((mA M 249) 2) - 1)))
def fM_isLabelTorn (M : zM) (a1 : Int32) : Option (Bool × zM) :=
  bnd2 (fM_goes M (fM_isLabel M a1)) fun v2 M1 =>
  if v2 = true then
    bnd (fM_its M1 a1 3) fun v4 =>
    if v4 = 1 then
      some (true, M1)
    else
      some (false, M1)
  else
    some (false, M1)
def fX_labelLast (Γ : Nat → zG) (a1 : Int32) : Option ((Int32 ⊕ String)) :=
  bnx (fX_needLabel Γ a1) (fun _ =>
    bnd (rix 8 a1) fun p5 =>
    some (.inl (gF (Γ 10) (18 + p5) 2))
    ) (fun E3 =>
    some (.inr E3)
    )
def fw_labelLast (Γ : Nat → zG) (ou : Nat → Int64) (j : Nat) (a1 : Int32) : Option (Int32 × (Nat → Int64) × Nat) :=
  bnx (fX_labelLast Γ a1) (fun v4 =>
    bnd (some ((vp_updL ou 0 (Int32.toInt64 v4)))) fun ou5 =>
    some (0, ou5, j)
    ) (fun E3 =>
    if E3 = "java/lang/IndexOutOfBoundsException" then
      some (1, ou, (j + 1))
    else
      none
    )
def fM_labelLast (M : zM) (a1 : Int32) : Option (Int32 × zM) :=
  bnd2 (fM_goes M (fM_isLabel M a1)) fun v2 M1 =>
  if v2 = true then
    bnd (fM_lastOf M1 a1) fun v4 =>
    some (v4, M1)
  else
    some (0, M1)
def fX_labelFirst (Γ : Nat → zG) (a1 : Int32) : Option ((Int32 ⊕ String)) :=
  bnx (fX_needLabel Γ a1) (fun _ =>
    bnd (rix 8 a1) fun p5 =>
    some (.inl (gF (Γ 10) (18 + p5) 1))
    ) (fun E3 =>
    some (.inr E3)
    )
def fw_labelFirst (Γ : Nat → zG) (ou : Nat → Int64) (j : Nat) (a1 : Int32) : Option (Int32 × (Nat → Int64) × Nat) :=
  bnx (fX_labelFirst Γ a1) (fun v4 =>
    bnd (some ((vp_updL ou 0 (Int32.toInt64 v4)))) fun ou5 =>
    some (0, ou5, j)
    ) (fun E3 =>
    if E3 = "java/lang/IndexOutOfBoundsException" then
      some (1, ou, (j + 1))
    else
      none
    )
def fM_inLabel (M : zM) (a1 : Int32) (a2 : Int32) : Option (Int32 × zM) :=
  bnd2 (fM_goes M (fM_isLabel M a1)) fun v2 M1 =>
  if v2 = true then
    bnd (fM_its M1 a1 a2) fun v4 =>
    some (v4, M1)
  else
    some (0, M1)
def fM_labelFirst (M : zM) (a1 : Int32) : Option (Int32 × zM) :=
  bnd2 (fM_inLabel M a1 1) fun v2 M1 =>
  some (v2, M1)
def fX_labelBand (Γ : Nat → zG) (a1 : Int32) : Option ((Int32 ⊕ String)) :=
  bnx (fX_needLabel Γ a1) (fun _ =>
    bnd (rix 8 a1) fun p5 =>
    some (.inl (gF (Γ 10) (18 + p5) 0))
    ) (fun E3 =>
    some (.inr E3)
    )
def fw_labelBand (Γ : Nat → zG) (ou : Nat → Int64) (j : Nat) (a1 : Int32) : Option (Int32 × (Nat → Int64) × Nat) :=
  bnx (fX_labelBand Γ a1) (fun v4 =>
    bnd (some ((vp_updL ou 0 (Int32.toInt64 v4)))) fun ou5 =>
    some (0, ou5, j)
    ) (fun E3 =>
    if E3 = "java/lang/IndexOutOfBoundsException" then
      some (1, ou, (j + 1))
    else
      none
    )
def fM_labelBand (M : zM) (a1 : Int32) : Option (Int32 × zM) :=
  bnd2 (fM_inLabel M a1 0) fun v2 M1 =>
  some (v2, M1)
def fX_labelCount (Γ : Nat → zG) : Int32 :=
  (gF (Γ 10) 0 6)
def fM_labelCount (M : zM) : Option (Int32 × zM) :=
  bnd2 (fM_told M ((mA M 249) 2)) fun v2 M1 =>
  some (v2, M1)
def fG_spotNextAtMidnight_b6 (G : zG) (a1 : Int32) (a2 : Int32) (a3 : Int32) : Option ((Int32 × Int32 × Int32) ⊕ (Int32)) :=
  if a3 < (gF G 0 4) then
    bnd (rix 10 a3) fun p5 =>
    bnd (rix 10 a3) fun p6 =>
    bnd (fG_localHour G (gF G (7 + p5) 2) (gF G (7 + p6) 3)) fun v7 =>
    if a1 = (-1) then
      some (.inl (a3, (24 - v7), (a3 + 1)))
    else
      if (24 - v7) < a2 then
        some (.inl (a3, (24 - v7), (a3 + 1)))
      else
        some (.inl (a1, a2, (a3 + 1)))
  else
    some (.inr a1)
def fG_spotNextAtMidnight (G : zG) : Option Int32 :=
  iter (fun s => fG_spotNextAtMidnight_b6 G s.1 s.2.1 s.2.2) fu ((-1), 0, 0)
def fX_nextMidnight (Γ : Nat → zG) : Option Int32 :=
  bnd (fG_spotNextAtMidnight (Γ 10)) fun v1 =>
  some v1
def fM_nextMidnight_b4 (M : zM) (a1 : Int32) (a2 : Int32) : Option ((Int32 × Int32) ⊕ (Int32 × zM)) :=
  if a2 < ((mA M 249) 1) then
    if a1 = (-1) then
      some (.inl (a2, (a2 + 1)))
    else
      bnd (fM_hourNow M a2) fun v4 =>
      bnd (fM_hourNow M a1) fun v6 =>
      if (24 - v4) < (24 - v6) then
        some (.inl (a2, (a2 + 1)))
      else
        some (.inl (a1, (a2 + 1)))
  else
    bnd2 (fM_told M a1) fun v2 M1 =>
    some (.inr (v2, M1))
def fM_nextMidnight (M : zM) : Option (Int32 × zM) :=
  iter (fun s => fM_nextMidnight_b4 M s.1 s.2) fu ((-1), 0)
def fX_crossingsOf (Γ : Nat → zG) (a1 : Int32) : Option ((Int32 ⊕ String)) :=
  bnx (fX_needSpot Γ a1) (fun _ =>
    bnd (rix 10 a1) fun p5 =>
    some (.inl (gF (Γ 10) (7 + p5) 7))
    ) (fun E3 =>
    some (.inr E3)
    )
def fw_crossingsOf (Γ : Nat → zG) (ou : Nat → Int64) (j : Nat) (a1 : Int32) : Option (Int32 × (Nat → Int64) × Nat) :=
  bnx (fX_crossingsOf Γ a1) (fun v4 =>
    bnd (some ((vp_updL ou 0 (Int32.toInt64 v4)))) fun ou5 =>
    some (0, ou5, j)
    ) (fun E3 =>
    if E3 = "java/lang/IndexOutOfBoundsException" then
      some (1, ou, (j + 1))
    else
      none
    )
def fM_inSpot (M : zM) (a1 : Int32) (a2 : Int32) : Option (Int32 × zM) :=
  bnd2 (fM_goes M (fM_isSpot M a1)) fun v2 M1 =>
  if v2 = true then
    bnd (fM_of M1 a1 a2) fun v4 =>
    some (v4, M1)
  else
    some (0, M1)
def fM_crossingsOf (M : zM) (a1 : Int32) : Option (Int32 × zM) :=
  bnd2 (fM_inSpot M a1 8) fun v2 M1 =>
  some (v2, M1)
def fX_degreesLeft (Γ : Nat → zG) (a1 : Int32) : Option ((Int32 ⊕ String)) :=
  bnx (fX_needSpot Γ a1) (fun _ =>
    bnd (rix 10 a1) fun p5 =>
    some (.inl (gF (Γ 10) (7 + p5) 6))
    ) (fun E3 =>
    some (.inr E3)
    )
def fw_degreesLeft (Γ : Nat → zG) (ou : Nat → Int64) (j : Nat) (a1 : Int32) : Option (Int32 × (Nat → Int64) × Nat) :=
  bnx (fX_degreesLeft Γ a1) (fun v4 =>
    bnd (some ((vp_updL ou 0 (Int32.toInt64 v4)))) fun ou5 =>
    some (0, ou5, j)
    ) (fun E3 =>
    if E3 = "java/lang/IndexOutOfBoundsException" then
      some (1, ou, (j + 1))
    else
      none
    )
def fM_degreesLeft (M : zM) (a1 : Int32) : Option (Int32 × zM) :=
  bnd2 (fM_inSpot M a1 7) fun v2 M1 =>
  some (v2, M1)
def fX_dayOf (Γ : Nat → zG) (a1 : Int32) : Option ((Int32 ⊕ String)) :=
  bnx (fX_needSpot Γ a1) (fun _ =>
    bnd (rix 10 a1) fun p5 =>
    if (gB (Γ 10) (7 + p5)) = true then
      some (.inl (gF (Γ 10) (7 + p5) 4))
    else
      bnd (fG_localDay (Γ 10) (gF (Γ 10) (7 + p5) 2) (gF (Γ 10) (7 + p5) 3)) fun v6 =>
      some (.inl v6)
    ) (fun E3 =>
    some (.inr E3)
    )
def fw_dayOf (Γ : Nat → zG) (ou : Nat → Int64) (j : Nat) (a1 : Int32) : Option (Int32 × (Nat → Int64) × Nat) :=
  bnx (fX_dayOf Γ a1) (fun v4 =>
    bnd (some ((vp_updL ou 0 (Int32.toInt64 v4)))) fun ou5 =>
    some (0, ou5, j)
    ) (fun E3 =>
    if E3 = "java/lang/IndexOutOfBoundsException" then
      some (1, ou, (j + 1))
    else
      none
    )
def fM_dayOf (M : zM) (a1 : Int32) : Option (Int32 × zM) :=
  bnd2 (fM_goes M (fM_isSpot M a1)) fun v2 M1 =>
  if v2 = true then
    bnd (fM_travels M1 a1) fun v4 =>
    if v4 = true then
      bnd (fM_of M1 a1 5) fun v8 =>
      some (v8, M1)
    else
      bnd (fM_dayNow M1 a1) fun v6 =>
      some (v6, M1)
  else
    some (0, M1)
def fX_meridianOf (Γ : Nat → zG) (a1 : Int32) : Option ((Int32 ⊕ String)) :=
  bnx (fX_needSpot Γ a1) (fun _ =>
    bnd (rix 10 a1) fun p5 =>
    some (.inl (gF (Γ 10) (7 + p5) 3))
    ) (fun E3 =>
    some (.inr E3)
    )
def fw_meridianOf (Γ : Nat → zG) (ou : Nat → Int64) (j : Nat) (a1 : Int32) : Option (Int32 × (Nat → Int64) × Nat) :=
  bnx (fX_meridianOf Γ a1) (fun v4 =>
    bnd (some ((vp_updL ou 0 (Int32.toInt64 v4)))) fun ou5 =>
    some (0, ou5, j)
    ) (fun E3 =>
    if E3 = "java/lang/IndexOutOfBoundsException" then
      some (1, ou, (j + 1))
    else
      none
    )
def fM_meridianOf (M : zM) (a1 : Int32) : Option (Int32 × zM) :=
  bnd2 (fM_inSpot M a1 4) fun v2 M1 =>
  some (v2, M1)
def fX_bandOf (Γ : Nat → zG) (a1 : Int32) : Option ((Int32 ⊕ String)) :=
  bnx (fX_needSpot Γ a1) (fun _ =>
    bnd (rix 10 a1) fun p5 =>
    some (.inl (gF (Γ 10) (7 + p5) 2))
    ) (fun E3 =>
    some (.inr E3)
    )
def fw_bandOf (Γ : Nat → zG) (ou : Nat → Int64) (j : Nat) (a1 : Int32) : Option (Int32 × (Nat → Int64) × Nat) :=
  bnx (fX_bandOf Γ a1) (fun v4 =>
    bnd (some ((vp_updL ou 0 (Int32.toInt64 v4)))) fun ou5 =>
    some (0, ou5, j)
    ) (fun E3 =>
    if E3 = "java/lang/IndexOutOfBoundsException" then
      some (1, ou, (j + 1))
    else
      none
    )
def fM_bandOf (M : zM) (a1 : Int32) : Option (Int32 × zM) :=
  bnd2 (fM_inSpot M a1 3) fun v2 M1 =>
  some (v2, M1)
def fX_isTraveller (Γ : Nat → zG) (a1 : Int32) : Option ((Bool ⊕ String)) :=
  bnx (fX_needSpot Γ a1) (fun _ =>
    bnd (rix 10 a1) fun p5 =>
    some (.inl (gB (Γ 10) (7 + p5)))
    ) (fun E3 =>
    some (.inr E3)
    )
def fw_isTraveller_j15 (Γ : Nat → zG) (ou : Nat → Int64) (j : Nat) (a0t : Int64) : Option (Int32 × (Nat → Int64) × Nat) :=
  bnd (some ((vp_updL ou 0 a0t))) fun ou3 =>
  some (0, ou3, j)
def fw_isTraveller (Γ : Nat → zG) (ou : Nat → Int64) (j : Nat) (a1 : Int32) : Option (Int32 × (Nat → Int64) × Nat) :=
  bnx (fX_isTraveller Γ a1) (fun v6 =>
    if v6 = true then
      fw_isTraveller_j15 Γ ou j 1
    else
      fw_isTraveller_j15 Γ ou j 0
    ) (fun E5 =>
    if E5 = "java/lang/IndexOutOfBoundsException" then
      some (1, ou, (j + 1))
    else
      none
    )
def fM_isTraveller (M : zM) (a1 : Int32) : Option (Bool × zM) :=
  bnd2 (fM_goes M (fM_isSpot M a1)) fun v2 M1 =>
  if v2 = true then
    bnd (fM_travels M1 a1) fun v4 =>
    if v4 = true then
      some (true, M1)
    else
      some (false, M1)
  else
    some (false, M1)
def fX_findSpot (I : zI) (Γ : Nat → zG) : Option Int32 :=
  bnd (fI_wholeWord I) fun v1 =>
  bnd (fG_spotNamed (Γ 10) v1) fun v3 =>
  some v3
def fM_findSpot_j21 (M : zM) (a0t : Int32) : Option (Int32 × zM) :=
  bnd2 (fM_told M a0t) fun v2 M1 =>
  some (v2, M1)
def fM_findSpot (M : zM) : Option (Int32 × zM) :=
  bnd (fM_bufferName M) fun v4 =>
  if v4 = 0 then
    fM_findSpot_j21 M (-1)
  else
    bnd (fM_spotNamed M v4) fun v6 =>
    fM_findSpot_j21 M v6
def fW_letterAt (a0 : Int64) (a2 : Int32) : Option Int32 :=
  bnd (fW_letterCount a0) fun v1 =>
  if a2 < 0 then
    some (-1)
  else
    if a2 < v1 then
      some ((Int64.toInt32 (Int64.toUInt64 a0 >>> ((Int32.toInt64 (8 * ((v1 - 1) - a2))).toUInt64 &&& Int64.toUInt64 63)).toInt64) &&& 255)
    else
      some (-1)
def fX_nameByte (Γ : Nat → zG) (a1 : Int32) (a2 : Int32) : Option ((Int32 ⊕ String)) :=
  bnx (fX_needSpot Γ a1) (fun _ =>
    bnd (rix 10 a1) fun p5 =>
    bnd (fW_letterAt (gN (Γ 10) (7 + p5)) a2) fun v6 =>
    some (.inl v6)
    ) (fun E3 =>
    some (.inr E3)
    )
def fw_nameByte (Γ : Nat → zG) (ou : Nat → Int64) (j : Nat) (a1 : Int32) (a2 : Int32) : Option (Int32 × (Nat → Int64) × Nat) :=
  bnx (fX_nameByte Γ a1 a2) (fun v4 =>
    bnd (some ((vp_updL ou 0 (Int32.toInt64 v4)))) fun ou5 =>
    some (0, ou5, j)
    ) (fun E3 =>
    if E3 = "java/lang/IndexOutOfBoundsException" then
      some (1, ou, (j + 1))
    else
      none
    )
def fM_letterIn (a0 : Int64) (a2 : Int32) : Option Int32 :=
  bnd (fM_lengthOf a0) fun v1 =>
  some (96 + (Int64.toInt32 ((a0 >>> (Int32.toInt64 (5 * ((v1 - 1) - a2)) &&& 63)) &&& 31)))
def fM_letterOf (a1 : Int64) (a3 : Int32) : Option Int32 :=
  bnd (fM_lengthOf a1) fun v1 =>
  if (fM_isIn (Int32.toInt64 a3) 0 (Int32.toInt64 (v1 - 1))) = true then
    bnd (fM_letterIn a1 a3) fun v3 =>
    some v3
  else
    some (-1)
def fM_nameByte (M : zM) (a1 : Int32) (a2 : Int32) : Option (Int32 × zM) :=
  bnd2 (fM_goes M (fM_isSpot M a1)) fun v2 M1 =>
  if v2 = true then
    bnd (fM_nameOf M1 a1) fun v4 =>
    bnd (fM_letterOf v4 a2) fun v6 =>
    some (v6, M1)
  else
    some (0, M1)
def fX_spotCount (Γ : Nat → zG) : Int32 :=
  (gF (Γ 10) 0 4)
def fM_spotCount (M : zM) : Option (Int32 × zM) :=
  bnd2 (fM_told M ((mA M 249) 1)) fun v2 M1 =>
  some (v2, M1)
def fX_clock (Γ : Nat → zG) : Int32 :=
  (gF (Γ 10) 0 2)
def fM_clock (M : zM) : Option (Int32 × zM) :=
  bnd2 (fM_told M ((mA M 249) 4)) fun v2 M1 =>
  some (v2, M1)
def fX_hourAt (Γ : Nat → zG) (a1 : Int32) (a2 : Int32) : Option ((Int32 ⊕ String)) :=
  bnx (fX_needPlace a1 a2) (fun _ =>
    bnd (fG_localHour (Γ 10) a1 a2) fun v4 =>
    some (.inl v4)
    ) (fun E2 =>
    some (.inr E2)
    )
def fw_hourAt (Γ : Nat → zG) (ou : Nat → Int64) (j : Nat) (a1 : Int32) (a2 : Int32) : Option (Int32 × (Nat → Int64) × Nat) :=
  bnx (fX_hourAt Γ a1 a2) (fun v4 =>
    bnd (some ((vp_updL ou 0 (Int32.toInt64 v4)))) fun ou5 =>
    some (0, ou5, j)
    ) (fun E3 =>
    if E3 = "java/lang/IllegalArgumentException" then
      some (1, ou, (j + 1))
    else
      none
    )
def fM_hourAt (M : zM) (a1 : Int32) (a2 : Int32) : Option (Int32 × zM) :=
  bnd2 (fM_goes M (fM_isSpotAt a1 a2)) fun v2 M1 =>
  if v2 = true then
    bnd (fM_localHour M1 a1 a2) fun v4 =>
    some (v4, M1)
  else
    some (0, M1)
def fX_dayAt (Γ : Nat → zG) (a1 : Int32) (a2 : Int32) : Option ((Int32 ⊕ String)) :=
  bnx (fX_needPlace a1 a2) (fun _ =>
    bnd (fG_localDay (Γ 10) a1 a2) fun v4 =>
    some (.inl v4)
    ) (fun E2 =>
    some (.inr E2)
    )
def fw_dayAt (Γ : Nat → zG) (ou : Nat → Int64) (j : Nat) (a1 : Int32) (a2 : Int32) : Option (Int32 × (Nat → Int64) × Nat) :=
  bnx (fX_dayAt Γ a1 a2) (fun v4 =>
    bnd (some ((vp_updL ou 0 (Int32.toInt64 v4)))) fun ou5 =>
    some (0, ou5, j)
    ) (fun E3 =>
    if E3 = "java/lang/IllegalArgumentException" then
      some (1, ou, (j + 1))
    else
      none
    )
def fM_dayAt (M : zM) (a1 : Int32) (a2 : Int32) : Option (Int32 × zM) :=
  bnd2 (fM_goes M (fM_isSpotAt a1 a2)) fun v2 M1 =>
  if v2 = true then
    bnd (fM_localDay M1 a1 a2) fun v4 =>
    some (v4, M1)
  else
    some (0, M1)
def fX_longitude (Γ : Nat → zG) (a1 : Int32) (a2 : Int32) : Option ((Int32 ⊕ String)) :=
  bnx (fX_needPlace a1 a2) (fun _ =>
    bnd (fG_longitudeIn (Γ 10) a1 a2) fun v4 =>
    some (.inl v4)
    ) (fun E2 =>
    some (.inr E2)
    )
def fw_longitude (Γ : Nat → zG) (ou : Nat → Int64) (j : Nat) (a1 : Int32) (a2 : Int32) : Option (Int32 × (Nat → Int64) × Nat) :=
  bnx (fX_longitude Γ a1 a2) (fun v4 =>
    bnd (some ((vp_updL ou 0 (Int32.toInt64 v4)))) fun ou5 =>
    some (0, ou5, j)
    ) (fun E3 =>
    if E3 = "java/lang/IllegalArgumentException" then
      some (1, ou, (j + 1))
    else
      none
    )
def fM_longitude (M : zM) (a1 : Int32) (a2 : Int32) : Option (Int32 × zM) :=
  bnd2 (fM_goes M (fM_isSpotAt a1 a2)) fun v2 M1 =>
  if v2 = true then
    bnd (fM_longitudeOf M1 a1 a2) fun v4 =>
    some (v4, M1)
  else
    some (0, M1)
def fX_hemAt (Γ : Nat → zG) (a1 : Int32) : Option ((Int32 ⊕ String)) :=
  bnx (fX_needBand a1) (fun _ =>
    bnd (rd 9 (gA (Γ 10) 5) a1) fun v5 =>
    some (.inl v5)
    ) (fun E3 =>
    some (.inr E3)
    )
def fw_hemAt (Γ : Nat → zG) (ou : Nat → Int64) (j : Nat) (a1 : Int32) : Option (Int32 × (Nat → Int64) × Nat) :=
  bnx (fX_hemAt Γ a1) (fun v4 =>
    bnd (some ((vp_updL ou 0 (Int32.toInt64 v4)))) fun ou5 =>
    some (0, ou5, j)
    ) (fun E3 =>
    if E3 = "java/lang/IllegalArgumentException" then
      some (1, ou, (j + 1))
    else
      none
    )
def fM_hemAt (M : zM) (a1 : Int32) : Option (Int32 × zM) :=
  bnd2 (fM_goes M (fM_isBand a1)) fun v3 M2 =>
  if v3 = true then
    bnd (rd 160 (mA M2 249) (5 + a1)) fun v5 =>
    some (v5, M2)
  else
    some (0, M2)
def fX_thread (Γ : Nat → zG) : Int32 :=
  (gF (Γ 10) 0 3)
def fM_thread (M : zM) : Option (Int32 × zM) :=
  bnd2 (fM_told M ((mA M 249) 3)) fun v2 M1 =>
  some (v2, M1)
def fC_countTorn_b4 (G : zG) (a1 : Int32) (a2 : Int32) : Option ((Int32 × Int32) ⊕ (Int32)) :=
  if a2 < (gF G 1 0) then
    bnd (rd 12 (gA G 4) a2) fun v2 =>
    if v2 = 0 then
      some (.inl ((a1 + 1), (a2 + 1)))
    else
      some (.inl (a1, (a2 + 1)))
  else
    some (.inr a1)
def fC_countTorn (G : zG) : Option Int32 :=
  iter (fun s => fC_countTorn_b4 G s.1 s.2) fu (0, 0)
def fX_tornSeams (Γ : Nat → zG) : Option Int32 :=
  bnd (fC_countTorn (Γ 10)) fun v1 =>
  some v1
def fM_torn_b4 (M : zM) (a1 : Int32) (a2 : Int32) : Option ((Int32 × Int32) ⊕ (Int32)) :=
  if a2 < ((mA M 249) 0) then
    bnd (fM_isTornSeam M a2) fun v1 =>
    some (.inl ((a1 + (fM_truth v1)), (a2 + 1)))
  else
    some (.inr a1)
def fM_torn (M : zM) : Option Int32 :=
  iter (fun s => fM_torn_b4 M s.1 s.2) fu (0, 0)
def fM_tornSeams (M : zM) : Option (Int32 × zM) :=
  bnd (fM_torn M) fun v1 =>
  bnd2 (fM_told M v1) fun v4 M3 =>
  some (v4, M3)
def fX_strainOf (Γ : Nat → zG) (a1 : Int32) : Option ((Int32 ⊕ String)) :=
  bnx (fX_needGore Γ a1) (fun _ =>
    bnd (fC_strain (Γ 10) a1) fun v4 =>
    some (.inl v4)
    ) (fun E2 =>
    some (.inr E2)
    )
def fw_strainOf (Γ : Nat → zG) (ou : Nat → Int64) (j : Nat) (a1 : Int32) : Option (Int32 × (Nat → Int64) × Nat) :=
  bnx (fX_strainOf Γ a1) (fun v4 =>
    bnd (some ((vp_updL ou 0 (Int32.toInt64 v4)))) fun ou5 =>
    some (0, ou5, j)
    ) (fun E3 =>
    if E3 = "java/lang/IndexOutOfBoundsException" then
      some (1, ou, (j + 1))
    else
      none
    )
def fM_strainOf (M : zM) (a1 : Int32) : Option (Int32 × zM) :=
  bnd2 (fM_goes M (fM_isGore M a1)) fun v2 M1 =>
  if v2 = true then
    bnd (fM_strain M1 a1) fun v4 =>
    some (v4, M1)
  else
    some (0, M1)
def fX_stitchesOf (Γ : Nat → zG) (a1 : Int32) : Option ((Int32 ⊕ String)) :=
  bnx (fX_needGore Γ a1) (fun _ =>
    bnd (rd 12 (gA (Γ 10) 4) a1) fun v5 =>
    some (.inl v5)
    ) (fun E3 =>
    some (.inr E3)
    )
def fw_stitchesOf (Γ : Nat → zG) (ou : Nat → Int64) (j : Nat) (a1 : Int32) : Option (Int32 × (Nat → Int64) × Nat) :=
  bnx (fX_stitchesOf Γ a1) (fun v4 =>
    bnd (some ((vp_updL ou 0 (Int32.toInt64 v4)))) fun ou5 =>
    some (0, ou5, j)
    ) (fun E3 =>
    if E3 = "java/lang/IndexOutOfBoundsException" then
      some (1, ou, (j + 1))
    else
      none
    )
def fM_stitchesOf (M : zM) (a1 : Int32) : Option (Int32 × zM) :=
  bnd2 (fM_goes M (fM_isGore M a1)) fun v3 M2 =>
  if v3 = true then
    bnd (rd 160 (mA M2 249) (26 + a1)) fun v5 =>
    some (v5, M2)
  else
    some (0, M2)
def fC_goreCovering_b4 (G : zG) (a1 : Int32) (a2 : Int32) (a3 : Int32) : Option ((Int32 × Int32) ⊕ (Int32)) :=
  if a3 < (gF G 1 0) then
    bnd (rd 12 (gA G 3) a3) fun v3 =>
    if a1 < v3 then
      some (.inl (a2, (a3 + 1)))
    else
      some (.inl (a3, (a3 + 1)))
  else
    some (.inr a2)
def fC_goreCovering (G : zG) (a1 : Int32) : Option Int32 :=
  iter (fun s => fC_goreCovering_b4 G a1 s.1 s.2) fu (0, 0)
def fX_goreAt (Γ : Nat → zG) (a1 : Int32) : Option ((Int32 ⊕ String)) :=
  if (fX_isMeridian a1) = true then
    bnd (fC_goreCovering (Γ 10) a1) fun v1 =>
    some (.inl v1)
  else
    some (.inr "java/lang/IllegalArgumentException")
def fw_goreAt (Γ : Nat → zG) (ou : Nat → Int64) (j : Nat) (a1 : Int32) : Option (Int32 × (Nat → Int64) × Nat) :=
  bnx (fX_goreAt Γ a1) (fun v4 =>
    bnd (some ((vp_updL ou 0 (Int32.toInt64 v4)))) fun ou5 =>
    some (0, ou5, j)
    ) (fun E3 =>
    if E3 = "java/lang/IllegalArgumentException" then
      some (1, ou, (j + 1))
    else
      none
    )
def fM_goreOn_b2 (M : zM) (a1 : Int32) (a2 : Int32) : Option ((Int32) ⊕ (Int32)) :=
  if (a2 + 1) < ((mA M 249) 0) then
    bnd (fM_beginning M (a2 + 1)) fun v1 =>
    if a1 < v1 then
      some (.inr a2)
    else
      some (.inl (a2 + 1))
  else
    some (.inr a2)
def fM_goreOn (M : zM) (a1 : Int32) : Option Int32 :=
  iter (fun s => fM_goreOn_b2 M a1 s) fu 0
def fM_goreAt (M : zM) (a1 : Int32) : Option (Int32 × zM) :=
  bnd2 (fM_goes M (fM_isMeridian a1)) fun v2 M1 =>
  if v2 = true then
    bnd (fM_goreOn M1 a1) fun v4 =>
    some (v4, M1)
  else
    some (0, M1)
def fX_beginOf (Γ : Nat → zG) (a1 : Int32) : Option ((Int32 ⊕ String)) :=
  bnx (fX_needGore Γ a1) (fun _ =>
    bnd (rd 12 (gA (Γ 10) 3) a1) fun v5 =>
    some (.inl v5)
    ) (fun E3 =>
    some (.inr E3)
    )
def fw_beginOf (Γ : Nat → zG) (ou : Nat → Int64) (j : Nat) (a1 : Int32) : Option (Int32 × (Nat → Int64) × Nat) :=
  bnx (fX_beginOf Γ a1) (fun v4 =>
    bnd (some ((vp_updL ou 0 (Int32.toInt64 v4)))) fun ou5 =>
    some (0, ou5, j)
    ) (fun E3 =>
    if E3 = "java/lang/IndexOutOfBoundsException" then
      some (1, ou, (j + 1))
    else
      none
    )
def fM_beginOf (M : zM) (a1 : Int32) : Option (Int32 × zM) :=
  bnd2 (fM_goes M (fM_isGore M a1)) fun v2 M1 =>
  if v2 = true then
    bnd (fM_beginning M1 a1) fun v4 =>
    some (v4, M1)
  else
    some (0, M1)
def fX_widthOf (Γ : Nat → zG) (a1 : Int32) : Option ((Int32 ⊕ String)) :=
  bnx (fX_needGore Γ a1) (fun _ =>
    bnd (rd 12 (gA (Γ 10) 2) a1) fun v5 =>
    some (.inl v5)
    ) (fun E3 =>
    some (.inr E3)
    )
def fw_widthOf (Γ : Nat → zG) (ou : Nat → Int64) (j : Nat) (a1 : Int32) : Option (Int32 × (Nat → Int64) × Nat) :=
  bnx (fX_widthOf Γ a1) (fun v4 =>
    bnd (some ((vp_updL ou 0 (Int32.toInt64 v4)))) fun ou5 =>
    some (0, ou5, j)
    ) (fun E3 =>
    if E3 = "java/lang/IndexOutOfBoundsException" then
      some (1, ou, (j + 1))
    else
      none
    )
def fM_widthOf (M : zM) (a1 : Int32) : Option (Int32 × zM) :=
  bnd2 (fM_goes M (fM_isGore M a1)) fun v3 M2 =>
  if v3 = true then
    bnd (rd 160 (mA M2 249) (14 + a1)) fun v5 =>
    some (v5, M2)
  else
    some (0, M2)
def fX_goreCount (Γ : Nat → zG) : Int32 :=
  (gF (Γ 10) 1 0)
def fM_goreCount (M : zM) : Option (Int32 × zM) :=
  bnd2 (fM_told M ((mA M 249) 0)) fun v2 M1 =>
  some (v2, M1)
def fX_errorOffset (I : zI) : Int32 :=
  (iF I 9)
def fM_errorOffset (M : zM) : Option (Int32 × zM) :=
  bnd (some (wmF M 0 0)) fun M2 =>
  some ((mF M2 11), M2)
def fX_errorCode (I : zI) : Int32 :=
  (iF I 8)
def fM_errorCode (M : zM) : Option (Int32 × zM) :=
  bnd (some (wmF M 0 0)) fun M2 =>
  some ((mF M2 10), M2)
def fI_start (I : zI) : Option zI :=
  bnd (some (wiF I 2 0)) fun I4 =>
  bnd (some (wiF I4 8 0)) fun I5 =>
  bnd (some (wiF I5 9 (-1))) fun I6 =>
  some I6
def fI_isBlank (a0 : Int32) : Bool :=
  if a0 = 32 then
    true
  else
    if a0 = 10 then
      true
    else
      false
def fI_takeWord_j100 (I : zI) (a0t : Int64) : Option zI :=
  bnd (some (wiN I a0t)) fun I13 =>
  some I13
def fI_takeWord_j87 (I : zI) (a1 : Int64) (a3 : Bool) (a0t : Int32) : Option zI :=
  bnd (some (wiF I 4 a0t)) fun I12 =>
  if a3 = true then
    fI_takeWord_j100 I12 a1
  else
    fI_takeWord_j100 I12 0
def fI_takeWord_j76 (I : zI) (a1 : Int64) (a0t : Bool) : Option zI :=
  if a0t = true then
    fI_takeWord_j87 I a1 a0t 1
  else
    fI_takeWord_j87 I a1 a0t 4
def fI_takeWord_j57 (I : zI) (a1 : Int64) : Option zI :=
  if 8 < ((iF I 2) - (iF I 3)) then
    fI_takeWord_j76 I a1 false
  else
    fI_takeWord_j76 I a1 true
def fI_takeWord_b2 (I : zI) (a1 : Int64) : Option ((zI × Int64) ⊕ (zI)) :=
  if (iF I 2) < (iF I 1) then
    bnd (rd 600 (iA I) (iF I 2)) fun v14 =>
    if (fI_isLetter v14) = true then
      bnd (rd 600 (iA I) (iF I 2)) fun v15 =>
      bnd (some (wiF I 2 ((iF I 2) + 1))) fun I16 =>
      some (.inl (I16, ((a1 <<< (Int32.toInt64 8 &&& 63)) ||| (Int32.toInt64 v15))))
    else
      Option.map .inr (fI_takeWord_j57 I a1)
  else
    Option.map .inr (fI_takeWord_j57 I a1)
def fI_takeWord (I : zI) : Option zI :=
  iter (fun s => fI_takeWord_b2 s.1 s.2) fu (I, 0)
def fI_isDigit (a0 : Int32) : Bool :=
  if a0 < 48 then
    false
  else
    if 57 < a0 then
      false
    else
      true
def fI_takeNumber_j78 (I : zI) (a1 : Int32) (a0t : Int32) : Option zI :=
  bnd (some (wiF I 4 a0t)) fun I11 =>
  bnd (some (wiF I11 6 a1)) fun I12 =>
  some I12
def fI_takeNumber_j59 (I : zI) (a1 : Int32) : Option zI :=
  if 4 < ((iF I 2) - (iF I 3)) then
    fI_takeNumber_j78 I a1 4
  else
    fI_takeNumber_j78 I a1 2
def fI_takeNumber_b2 (I : zI) (a1 : Int32) : Option ((zI × Int32) ⊕ (zI)) :=
  if (iF I 2) < (iF I 1) then
    bnd (rd 600 (iA I) (iF I 2)) fun v13 =>
    if (fI_isDigit v13) = true then
      bnd (rd 600 (iA I) (iF I 2)) fun v14 =>
      bnd (some (wiF I 2 ((iF I 2) + 1))) fun I15 =>
      some (.inl (I15, (((a1 * 10) + v14) - 48)))
    else
      Option.map .inr (fI_takeNumber_j59 I a1)
  else
    Option.map .inr (fI_takeNumber_j59 I a1)
def fI_takeNumber (I : zI) : Option zI :=
  iter (fun s => fI_takeNumber_b2 s.1 s.2) fu (I, 0)
def fI_takeSign_j46 (I : zI) (a0t : Int32) : Option zI :=
  bnd (some (wiF I 4 a0t)) fun I7 =>
  bnd (some (wiF I7 2 ((iF I7 2) + 1))) fun I8 =>
  some I8
def fI_takeSign_j41 (I : zI) : Option zI :=
  fI_takeSign_j46 I 3
def fI_takeSign (I : zI) : Option zI :=
  bnd (rd 600 (iA I) (iF I 2)) fun v9 =>
  bnd (some (wiF I 7 v9)) fun I10 =>
  if (iF I10 7) = 59 then
    fI_takeSign_j41 I10
  else
    if (iF I10 7) = 40 then
      fI_takeSign_j41 I10
    else
      if (iF I10 7) = 41 then
        fI_takeSign_j41 I10
      else
        fI_takeSign_j46 I10 4
def fI_next_j39 (I : zI) : Option zI :=
  bnd (some (wiF I 3 (iF I 2))) fun I8 =>
  bnd (some (wiN I8 0)) fun I9 =>
  if (iF I9 2) < (iF I9 1) then
    bnd (rd 600 (iA I9) (iF I9 2)) fun v10 =>
    if (fI_isLetter v10) = true then
      bnd (fI_takeWord I9) fun I16 =>
      some I16
    else
      bnd (rd 600 (iA I9) (iF I9 2)) fun v11 =>
      if (fI_isDigit v11) = true then
        bnd (fI_takeNumber I9) fun I14 =>
        some I14
      else
        bnd (fI_takeSign I9) fun I12 =>
        some I12
  else
    bnd (some (wiF I9 4 0)) fun I18 =>
    some I18
def fI_next_b0 (I : zI) : Option ((zI) ⊕ (zI)) :=
  if (iF I 2) < (iF I 1) then
    bnd (rd 600 (iA I) (iF I 2)) fun v19 =>
    if (fI_isBlank v19) = true then
      bnd (some (wiF I 2 ((iF I 2) + 1))) fun I20 =>
      some (.inl I20)
    else
      Option.map .inr (fI_next_j39 I)
  else
    Option.map .inr (fI_next_j39 I)
def fI_next (I : zI) : Option zI :=
  iter (fun s => fI_next_b0 s) fu I
def fI_isSign (I : zI) (a1 : Int32) : Bool :=
  if (iF I 4) = 3 then
    if (iF I 7) = a1 then
      true
    else
      false
  else
    false
def fS_plan (C : zC) (a1 : Int32) (a2 : Int32) (a3 : Int32) (a4 : Int32) : Option zC :=
  if (sF C 1) < 40 then
    bnd (wr 40 (sA C 2) (sF C 1) a1) fun A10 =>
    bnd (some (wsA C 2 A10)) fun C11 =>
    bnd (wr 40 (sA C11 3) (sF C11 1) a2) fun A12 =>
    bnd (some (wsA C11 3 A12)) fun C13 =>
    bnd (wr 40 (sA C13 4) (sF C13 1) a3) fun A14 =>
    bnd (some (wsA C13 4 A14)) fun C15 =>
    bnd (wr 40 (sA C15 5) (sF C15 1) a4) fun A16 =>
    bnd (some (wsA C15 5 A16)) fun C17 =>
    bnd (some (wsF C17 1 ((sF C17 1) + 1))) fun C18 =>
    some C18
  else
    some C
def fI_fail (I : zI) (a1 : Int32) : Option (Bool × zI) :=
  bnd (some (wiF I 8 a1)) fun I3 =>
  bnd (some (wiF I3 9 (iF I3 3))) fun I4 =>
  some (false, I4)
def fI_expectSign (I : zI) (a1 : Int32) : Option (Bool × zI) :=
  bnd (fI_next I) fun I1 =>
  if (fI_isSign I1 a1) = true then
    some (true, I1)
  else
    bnd2 (fI_fail I1 1) fun v4 I3 =>
    if v4 = true then
      some (true, I3)
    else
      some (false, I3)
def fS_closeRepeat_j97 (I : zI) (C : zC) : Option (Bool × zI × zC) :=
  bnd2 (fI_expectSign I 59) fun v14 I13 =>
  some (v14, I13, C)
def fS_closeRepeat_b27 (I : zI) (a2 : Int32) (C : zC) (a3 : Int32) : Option ((zC × Int32) ⊕ (Bool × zI × zC)) :=
  bnd (rd 2 (sA C 8) (sF C 6)) fun v16 =>
  if a3 < (a2 * v16) then
    if (sF C 1) < 40 then
      bnd (rd 40 (sA C 2) ((sF C 1) - a2)) fun v17 =>
      bnd (rd 40 (sA C 3) ((sF C 1) - a2)) fun v18 =>
      bnd (rd 40 (sA C 4) ((sF C 1) - a2)) fun v19 =>
      bnd (rd 40 (sA C 5) ((sF C 1) - a2)) fun v20 =>
      bnd (fS_plan C v17 v18 v19 v20) fun C21 =>
      some (.inl (C21, (a3 + 1)))
    else
      Option.map .inr (fS_closeRepeat_j97 I C)
  else
    Option.map .inr (fS_closeRepeat_j97 I C)
def fS_closeRepeat (I : zI) (C : zC) : Option (Bool × zI × zC) :=
  bnd (some (wsF C 6 ((sF C 6) - 1))) fun C23 =>
  bnd (rd 2 (sA C23 7) (sF C23 6)) fun v24 =>
  iter (fun s => fS_closeRepeat_b27 I ((sF C23 1) - v24) s.1 s.2) fu (C23, ((sF C23 1) - v24))
def fS_kindOf (a0 : Int64) : Int32 :=
  if a0 = 6841709 then
    1
  else
    if a0 = 7562615 then
      2
    else
      if a0 = 1937007984 then
        3
      else
        if a0 = 2002873451 then
          4
        else
          if a0 = 7498096 then
            5
          else
            if a0 = 1885434739 then
              6
            else
              if a0 = 125780002955636 then
                7
              else
                0
def fI_expectNumber_j36 (I : zI) : Option (Int32 × zI) :=
  bnd2 (fI_fail I 2) fun v2 I1 =>
  some ((-1), I1)
def fI_expectNumber (I : zI) (a1 : Int32) (a2 : Int32) : Option (Int32 × zI) :=
  bnd (fI_next I) fun I4 =>
  if (iF I4 4) = 2 then
    if (iF I4 6) < a1 then
      fI_expectNumber_j36 I4
    else
      if a2 < (iF I4 6) then
        fI_expectNumber_j36 I4
      else
        some ((iF I4 6), I4)
  else
    bnd2 (fI_fail I4 1) fun v7 I6 =>
    some ((-1), I6)
def fS_openRepeat (I : zI) (C : zC) : Option (Bool × zI × zC) :=
  bnd2 (fI_expectNumber I 1 20) fun v7 I6 =>
  if v7 = (-1) then
    some (false, I6, C)
  else
    bnd (wr 2 (sA C 7) (sF C 6) (sF C 1)) fun A9 =>
    bnd (some (wsA C 7 A9)) fun C10 =>
    bnd (wr 2 (sA C10 8) (sF C10 6) v7) fun A11 =>
    bnd (some (wsA C10 8 A11)) fun C12 =>
    bnd (some (wsF C12 6 ((sF C12 6) + 1))) fun C13 =>
    bnd2 (fI_expectSign I6 40) fun v15 I14 =>
    some (v15, I14, C13)
def fS_readNumbers_j78 (I : zI) (C : zC) (a2 : Int32) (a3 : Int32) (a5 : Int32) (a0t : Int32) : Option (Bool × zI × zC) :=
  if a0t = (-1) then
    some (false, I, C)
  else
    bnd (fS_plan C a2 a3 a5 a0t) fun C7 =>
    bnd2 (fI_expectSign I 59) fun v10 I9 =>
    some (v10, I9, C7)
def fS_readNumbers_j51 (I : zI) (C : zC) (a2 : Int32) (a3 : Int32) (a0t : Int32) : Option (Bool × zI × zC) :=
  if a0t = (-1) then
    some (false, I, C)
  else
    if a2 = 4 then
      bnd2 (fI_expectNumber I 0 9999) fun v5 I4 =>
      fS_readNumbers_j78 I4 C a2 a3 a0t v5
    else
      fS_readNumbers_j78 I C a2 a3 a0t 0
def fS_readNumbers_j32 (I : zI) (C : zC) (a2 : Int32) (a3 : Int32) (a0t : Bool) : Option (Bool × zI × zC) :=
  if a0t = true then
    fS_readNumbers_j51 I C a2 a3 0
  else
    bnd2 (fI_expectNumber I 0 9999) fun v2 I1 =>
    fS_readNumbers_j51 I1 C a2 a3 v2
def fS_readNumbers_j27 (I : zI) (C : zC) (a2 : Int32) (a3 : Int32) : Option (Bool × zI × zC) :=
  fS_readNumbers_j32 I C a2 a3 true
def fS_readNumbers (I : zI) (C : zC) (a2 : Int32) : Option (Bool × zI × zC) :=
  bnd2 (fI_expectNumber I 0 9999) fun v13 I12 =>
  if v13 = (-1) then
    some (false, I12, C)
  else
    if a2 = 5 then
      fS_readNumbers_j27 I12 C a2 v13
    else
      if a2 = 6 then
        fS_readNumbers_j27 I12 C a2 v13
      else
        fS_readNumbers_j32 I12 C a2 v13 false
def fS_readCommand_j38 (I : zI) (C : zC) (a2 : Int32) : Option (Bool × zI × zC) :=
  if (sF C 0) < 30 then
    bnd (some (wsF C 0 ((sF C 0) + 1))) fun C2 =>
    if a2 = 7 then
      bnd3 (fS_openRepeat I C2) fun v9 I7 C8 =>
      some (v9, I7, C8)
    else
      bnd3 (fS_readNumbers I C2 a2) fun v5 I3 C4 =>
      some (v5, I3, C4)
  else
    bnd2 (fI_fail I 5) fun v12 I11 =>
    some (v12, I11, C)
def fS_readCommand (I : zI) (C : zC) : Option (Bool × zI × zC) :=
  if (fS_kindOf (iN I)) = 0 then
    bnd2 (fI_fail I 1) fun v18 I17 =>
    some (v18, I17, C)
  else
    if (fS_kindOf (iN I)) = 7 then
      if (sF C 6) < 2 then
        fS_readCommand_j38 I C (fS_kindOf (iN I))
      else
        bnd2 (fI_fail I 3) fun v15 I14 =>
        some (v15, I14, C)
    else
      fS_readCommand_j38 I C (fS_kindOf (iN I))
def fS_read_j77 (I : zI) (C : zC) (a2 : Int32) (a0t : Bool) : Option ((zI × zC × Int32) ⊕ (Bool × zI × zC)) :=
  if a0t = true then
    some (.inl (I, C, (a2 + 1)))
  else
    some (.inr (false, I, C))
def fS_read_j72 (I : zI) (C : zC) (a2 : Int32) : Option ((zI × zC × Int32) ⊕ (Bool × zI × zC)) :=
  bnd3 (fS_readCommand I C) fun v10 I8 C9 =>
  fS_read_j77 I8 C9 a2 v10
def fS_read_j48 (I : zI) (C : zC) (a2 : Int32) : Option ((zI × zC × Int32) ⊕ (Bool × zI × zC)) :=
  if (fI_isSign I 41) = true then
    if 0 < (sF C 6) then
      bnd3 (fS_closeRepeat I C) fun v6 I4 C5 =>
      fS_read_j77 I4 C5 a2 v6
    else
      fS_read_j72 I C a2
  else
    fS_read_j72 I C a2
def fS_read_b21 (I : zI) (C : zC) (a2 : Int32) : Option ((zI × zC × Int32) ⊕ (Bool × zI × zC)) :=
  if 600 < a2 then
    bnd2 (fI_fail I 1) fun v13 I12 =>
    some (.inr (v13, I12, C))
  else
    bnd (fI_next I) fun I15 =>
    if (iF I15 4) = 0 then
      if (sF C 6) = 0 then
        some (.inr (true, I15, C))
      else
        fS_read_j48 I15 C a2
    else
      fS_read_j48 I15 C a2
def fS_read (I : zI) (C : zC) : Option (Bool × zI × zC) :=
  bnd (some (wsF C 0 0)) fun C17 =>
  bnd (some (wsF C17 1 0)) fun C18 =>
  bnd (some (wsF C18 6 0)) fun C19 =>
  bnd (fI_start I) fun I20 =>
  iter (fun s => fS_read_b21 s.1 s.2.1 s.2.2) fu (I20, C19, 0)
def fS_refusalOf (C : zC) (G : zG) (a2 : Int32) : Option Int32 :=
  bnd (rd 40 (sA C 3) a2) fun v5 =>
  bnd (rd 40 (sA C 4) a2) fun v6 =>
  bnd (rd 40 (sA C 2) a2) fun v7 =>
  if v7 = 1 then
    bnd (fG_hemRefusal G v5 v6) fun v8 =>
    some v8
  else
  if v7 = 2 then
    bnd (fG_sewRefusal G v5 v6) fun v10 =>
    some v10
  else
  if v7 = 3 then
    bnd (fG_stepRefusal G v5 v6) fun v12 =>
    some v12
  else
  if v7 = 4 then
    bnd (rd 40 (sA C 5) a2) fun v14 =>
    bnd (fG_walkRefusal G v5 v6 v14) fun v15 =>
    some v15
  else
  if v7 = 5 then
    bnd (fG_ripRefusal G v5) fun v17 =>
    some v17
  else
    some (fG_passRefusal v5)
def fS_execute (C : zC) (G : zG) (a2 : Int32) : Option (Bool × zG) :=
  bnd (rd 40 (sA C 3) a2) fun v7 =>
  bnd (rd 40 (sA C 4) a2) fun v8 =>
  bnd (rd 40 (sA C 5) a2) fun v9 =>
  bnd (fS_refusalOf C G a2) fun v10 =>
  if v10 = 0 then
    bnd (rd 40 (sA C 2) a2) fun v12 =>
    if v12 = 1 then
      bnd2 (fG_shiftHem G v7 v8) fun v14 G13 =>
      some (true, G13)
    else
    if v12 = 2 then
      bnd2 (fG_addStitches G v7 v8) fun v17 G16 =>
      some (true, G16)
    else
    if v12 = 3 then
      bnd (rix 10 v7) fun p19 =>
      bnd (fG_makeStep G p19 v8) fun G20 =>
      some (true, G20)
    else
    if v12 = 4 then
      bnd (rix 10 v7) fun p22 =>
      bnd2 (fP_setOut G p22 v8 v9) fun v24 G23 =>
      some (true, G23)
    else
    if v12 = 5 then
      bnd2 (fG_openSeam G v7) fun v27 G26 =>
      some (true, G26)
    else
      bnd2 (fG_letPass G v7) fun v30 G29 =>
      some (true, G29)
  else
    some (false, G)
def fS_run_b2 (C : zC) (G : zG) (a2 : Int32) : Option ((zG × Int32) ⊕ (Int32 × zG)) :=
  if a2 < (sF C 1) then
    bnd2 (fS_execute C G a2) fun v2 G1 =>
    if v2 = true then
      some (.inl (G1, (a2 + 1)))
    else
      some (.inr (a2, G1))
  else
    some (.inr (a2, G))
def fS_run (C : zC) (G : zG) : Option (Int32 × zG) :=
  iter (fun s => fS_run_b2 C s.1 s.2) fu (G, 0)
def fX_runScript (I : zI) (C : zC) (Y : Nat → Int32) (Γ : Nat → zG) : Option ((Int32 ⊕ String) × zI × zC × (Nat → Int32) × (Nat → zG)) :=
  bnd3 (fS_read I C) fun v4 I2 C3 =>
  bnd (some (wiF I2 1 0)) fun I6 =>
  if v4 = true then
    bnd2 (fY_remember Y Γ 10) fun Y7 Γ8 =>
    bnd2 (fS_run C3 (Γ8 10)) fun v11 G10 =>
    some (.inl v11, I6, C3, Y7, (gup Γ8 10 G10))
  else
    some (.inr "java/lang/IllegalArgumentException", I6, C3, Y, Γ)
def fw_runScript (I : zI) (C : zC) (Y : Nat → Int32) (Γ : Nat → zG) (ou : Nat → Int64) (j : Nat) : Option (Int32 × zI × zC × (Nat → Int32) × (Nat → zG) × (Nat → Int64) × Nat) :=
  bnd5 (fX_runScript I C Y Γ) fun r10 I2 C3 Y4 Γ5 => Sum.elim (fun v8 =>
    bnd (some ((vp_updL ou 0 (Int32.toInt64 v8)))) fun ou9 =>
    some (0, I2, C3, Y4, Γ5, ou9, j)
    ) (fun E7 =>
    if E7 = "java/lang/IllegalArgumentException" then
      some (1, I2, C3, Y4, Γ5, ou, (j + 1))
    else
      none
    ) r10
def fM_here (M : zM) (a1 : Int32) : Option Int32 :=
  if ((mF M 4) + a1) < (mF M 3) then
    bnd (rd 600 (mA M 248) ((mF M 4) + a1)) fun v2 =>
    some v2
  else
    some (-1)
def fM_isDigit (a0 : Int32) : Bool :=
  if a0 < 48 then
    false
  else
    if 57 < a0 then
      false
    else
      true
def fM_goOnRead_j20 (M : zM) : Option ((zM) ⊕ (zM)) :=
  bnd (some (wmF M 4 ((mF M 4) + 1))) fun M19 =>
  some (.inl M19)
def fM_goOnRead_j239 (M : zM) (a2 : Int32) : Option zM :=
  bnd (some (wmF M 4 ((mF M 4) + a2))) fun M24 =>
  some M24
def fM_goOnRead_j229 (M : zM) (a1 : Int32) (a0t : Int32) : Option zM :=
  bnd (some (wmF M 6 a0t)) fun M22 =>
  bnd (some (wmF M22 7 a1)) fun M23 =>
  fM_goOnRead_j239 M23 1
def fM_goOnRead_j224 (M : zM) (a1 : Int32) : Option zM :=
  fM_goOnRead_j229 M a1 3
def fM_goOnRead_j133 (M : zM) (a2 : Int32) (a0t : Int32) : Option zM :=
  bnd (some (wmF M 6 a0t)) fun M20 =>
  fM_goOnRead_j239 M20 a2
def fM_goOnRead_b76 (M : zM) (a2 : Int32) : Option ((zM × Int32) ⊕ (zM)) :=
  bnd (fM_here M a2) fun v35 =>
  if (fM_isLetter v35) = true then
    if a2 < 8 then
      bnd (fM_here M a2) fun v37 =>
      bnd (some (wmN M (((mN M) <<< (Int32.toInt64 5 &&& 63)) ||| (Int32.toInt64 ((v37 - 97) + 1))))) fun M39 =>
      some (.inl (M39, (a2 + 1)))
    else
      some (.inl (M, (a2 + 1)))
  else
    if 8 < a2 then
      Option.map .inr (fM_goOnRead_j133 M a2 4)
    else
      Option.map .inr (fM_goOnRead_j133 M a2 1)
def fM_goOnRead_j199 (M : zM) (a2 : Int32) (a0t : Int32) : Option zM :=
  bnd (some (wmF M 6 a0t)) fun M21 =>
  fM_goOnRead_j239 M21 a2
def fM_goOnRead_b146 (M : zM) (a2 : Int32) : Option ((zM × Int32) ⊕ (zM)) :=
  bnd (fM_here M a2) fun v40 =>
  if (fM_isDigit v40) = true then
    if a2 < 4 then
      bnd (fM_here M a2) fun v42 =>
      bnd (some (wmF M 7 (((10 * (mF M 7)) + v42) - 48))) fun M44 =>
      some (.inl (M44, (a2 + 1)))
    else
      some (.inl (M, (a2 + 1)))
  else
    if 4 < a2 then
      Option.map .inr (fM_goOnRead_j199 M a2 4)
    else
      Option.map .inr (fM_goOnRead_j199 M a2 2)
def fM_goOnRead_b0 (M : zM) : Option ((zM) ⊕ (zM)) :=
  bnd (fM_here M 0) fun v25 =>
  if v25 = 32 then
    fM_goOnRead_j20 M
  else
    bnd (fM_here M 0) fun v27 =>
    if v27 = 10 then
      fM_goOnRead_j20 M
    else
      bnd (some (wmF M 5 (mF M 4))) fun M29 =>
      bnd (some (wmN M29 0)) fun M30 =>
      bnd (some (wmF M30 7 0)) fun M31 =>
      bnd (fM_here M31 0) fun v32 =>
      if v32 < 0 then
        bnd (some (wmF M31 6 0)) fun M34 =>
        some (.inr M34)
      else
        if (fM_isLetter v32) = true then
          Option.map .inr (iter (fun s => fM_goOnRead_b76 s.1 s.2) fu (M31, 0))
        else
          if (fM_isDigit v32) = true then
            Option.map .inr (iter (fun s => fM_goOnRead_b146 s.1 s.2) fu (M31, 0))
          else
            if v32 = 59 then
              Option.map .inr (fM_goOnRead_j224 M31 v32)
            else
              if v32 = 40 then
                Option.map .inr (fM_goOnRead_j224 M31 v32)
              else
                if v32 = 41 then
                  Option.map .inr (fM_goOnRead_j224 M31 v32)
                else
                  Option.map .inr (fM_goOnRead_j229 M31 v32 4)
def fM_goOnRead (M : zM) : Option zM :=
  iter (fun s => fM_goOnRead_b0 s) fu M
def fM_beginsText (M : zM) : Option zM :=
  bnd (some (wmF M 3 (mF M 2))) fun M6 =>
  bnd (some (wmF M6 2 0)) fun M7 =>
  bnd (some (wmF M7 4 0)) fun M8 =>
  bnd (some (wmF M8 8 0)) fun M9 =>
  bnd (some (wmF M9 9 (-1))) fun M10 =>
  bnd (fM_goOnRead M10) fun M11 =>
  some M11
def fM_isGood (M : zM) : Bool :=
  if (mF M 8) = 0 then
    true
  else
    false
def fM_isWord (M : zM) (a1 : Int64) : Bool :=
  if (mF M 8) = 0 then
    if (mF M 6) = 1 then
      if (mN M) = a1 then
        true
      else
        false
    else
      false
  else
    false
def fM_commandHere (M : zM) : Int32 :=
  if (fM_isWord M 8365) = true then
    0
  else
    if (fM_isWord M 19639) = true then
      1
    else
      if (fM_isWord M 643248) = true then
        2
      else
        if (fM_isWord M 755083) = true then
          3
        else
          if (fM_isWord M 18736) = true then
            4
          else
            if (fM_isWord M 525939) = true then
              5
            else
              if (fM_isWord M 609752116) = true then
                6
              else
                (-1)
def fM_wrong_j22 (M : zM) (a0t : Int32) : Option zM :=
  bnd (some (wmF M 8 a0t)) fun M5 =>
  bnd (some (wmF M5 9 (mF M5 5))) fun M6 =>
  some M6
def fM_wrong (M : zM) (a1 : Int32) : Option zM :=
  if 0 < (mF M 8) then
    some M
  else
    if (mF M 6) = 4 then
      fM_wrong_j22 M 1
    else
      fM_wrong_j22 M a1
def fM_looks_j47 (M : zM) : Option (Int32 × zM) :=
  some ((mF M 7), M)
def fM_looks_j20 (M : zM) (a1 : Int32) (a2 : Int32) : Option (Int32 × zM) :=
  if (fM_isGood M) = true then
    if (fM_isIn (Int32.toInt64 (mF M 7)) (Int32.toInt64 a1) (Int32.toInt64 a2)) = true then
      fM_looks_j47 M
    else
      bnd (fM_wrong M 2) fun M1 =>
      fM_looks_j47 M1
  else
    fM_looks_j47 M
def fM_looks (M : zM) (a1 : Int32) (a2 : Int32) : Option (Int32 × zM) :=
  if (fM_isGood M) = true then
    if (mF M 6) = 2 then
      fM_looks_j20 M a1 a2
    else
      bnd (fM_wrong M 1) fun M3 =>
      fM_looks_j20 M3 a1 a2
  else
    fM_looks_j20 M a1 a2
def fM_number (M : zM) (a1 : Int32) (a2 : Int32) : Option (Int32 × zM) :=
  bnd2 (fM_looks M a1 a2) fun v2 M1 =>
  if (fM_isGood M1) = true then
    bnd (fM_goOnRead M1) fun M4 =>
    some (v2, M4)
  else
    some (v2, M1)
def fM_isSign (M : zM) (a1 : Int32) : Bool :=
  if (mF M 8) = 0 then
    if (mF M 6) = 3 then
      if (mF M 7) = a1 then
        true
      else
        false
    else
      false
  else
    false
def fM_mustSign_j20 (M : zM) : Option zM :=
  if (fM_isGood M) = true then
    bnd (fM_goOnRead M) fun M1 =>
    some M1
  else
    some M
def fM_mustSign (M : zM) (a1 : Int32) : Option zM :=
  if (fM_isGood M) = true then
    if (fM_isSign M a1) = true then
      fM_mustSign_j20 M
    else
      bnd (fM_wrong M 1) fun M3 =>
      fM_mustSign_j20 M3
  else
    fM_mustSign_j20 M
def fM_more (M : zM) (a1 : Int32) (a2 : Int32) : Option (Int32 × zM) :=
  if (fM_isGood M) = true then
    bnd2 (fM_number M a1 a2) fun v2 M1 =>
    some (v2, M1)
  else
    some (a1, M)
def fM_readsRest_j59 (M : zM) (a1 : Int32) (a2 : Int32) : Option zM :=
  if a2 = 3 then
    bnd2 (fM_more M 0 9999) fun v10 M9 =>
    bnd (wr 60 (mA M9 257) a1 v10) fun A12 =>
    bnd (some (wmA M9 257 A12)) fun M13 =>
    some M13
  else
    some M
def fM_readsRest (M : zM) (a1 : Int32) (a2 : Int32) : Option zM :=
  if a2 = 6 then
    bnd2 (fM_number M 1 20) fun v25 M24 =>
    bnd (wr 60 (mA M24 255) a1 v25) fun A27 =>
    bnd (some (wmA M24 255 A27)) fun M28 =>
    bnd (fM_mustSign M28 40) fun M29 =>
    some M29
  else
    bnd2 (fM_more M 0 9999) fun v15 M14 =>
    bnd (wr 60 (mA M14 255) a1 v15) fun A17 =>
    bnd (some (wmA M14 255 A17)) fun M18 =>
    if 3 < a2 then
      fM_readsRest_j59 M18 a1 a2
    else
      bnd2 (fM_more M18 0 9999) fun v20 M19 =>
      bnd (wr 60 (mA M19 256) a1 v20) fun A22 =>
      bnd (some (wmA M19 256 A22)) fun M23 =>
      fM_readsRest_j59 M23 a1 a2
def fM_command_j122 (M : zM) (a0t : Bool) (a1t : Int32) : Option zM :=
  bnd (some (wmF M 28 (a1t + (fM_truth a0t)))) fun M19 =>
  some M19
def fM_command_j48 (M : zM) (a1 : Int32) : Option zM :=
  if (fM_isGood M) = true then
    bnd (some (wmF M 27 ((mF M 27) + 1))) fun M11 =>
    bnd (fM_goOnRead M11) fun M12 =>
    bnd (wr 60 (mA M12 254) (mF M12 26) a1) fun A14 =>
    bnd (some (wmA M12 254 A14)) fun M15 =>
    bnd (fM_readsRest M15 (mF M12 26) a1) fun M16 =>
    if (fM_isGood M16) = true then
      bnd (some (wmF M16 26 ((mF M16 26) + 1))) fun M18 =>
      if a1 = 6 then
        fM_command_j122 M18 true (mF M18 28)
      else
        fM_command_j122 M18 false (mF M18 28)
    else
      some M16
  else
    some M
def fM_command_j34 (M : zM) (a1 : Int32) : Option zM :=
  if (mF M 27) = 30 then
    bnd (fM_wrong M 5) fun M9 =>
    fM_command_j48 M9 a1
  else
    fM_command_j48 M a1
def fM_command_j15 (M : zM) (a1 : Int32) : Option zM :=
  if a1 = 6 then
    if (mF M 28) = 2 then
      bnd (fM_wrong M 3) fun M7 =>
      fM_command_j34 M7 a1
    else
      fM_command_j34 M a1
  else
    fM_command_j34 M a1
def fM_command (M : zM) : Option zM :=
  if (fM_commandHere M) = (-1) then
    bnd (fM_wrong M 1) fun M20 =>
    fM_command_j15 M20 (fM_commandHere M)
  else
    fM_command_j15 M (fM_commandHere M)
def fM_closes_b0 (M : zM) : Option ((zM) ⊕ (zM)) :=
  if 0 < (mF M 28) then
    if (fM_isSign M 41) = true then
      bnd (some (wmF M 28 ((mF M 28) - 1))) fun M5 =>
      bnd (wr 60 (mA M5 254) (mF M5 26) 7) fun A6 =>
      bnd (some (wmA M5 254 A6)) fun M7 =>
      bnd (some (wmF M7 26 ((mF M7 26) + 1))) fun M8 =>
      bnd (fM_goOnRead M8) fun M9 =>
      bnd (fM_mustSign M9 59) fun M11 =>
      some (.inl M11)
    else
      some (.inr M)
  else
    some (.inr M)
def fM_closes (M : zM) : Option zM :=
  iter (fun s => fM_closes_b0 s) fu M
def fM_endsText_j29 (M : zM) (a0t : Bool) : Option (Bool × zM) :=
  bnd2 (fM_goes M a0t) fun v4 M3 =>
  some (v4, M3)
def fM_endsText (M : zM) : Option (Bool × zM) :=
  bnd (some (wmF M 10 (mF M 8))) fun M6 =>
  bnd (some (wmF M6 11 (mF M6 9))) fun M7 =>
  if (mF M7 8) = 0 then
    fM_endsText_j29 M7 true
  else
    fM_endsText_j29 M7 false
def fM_may (M : zM) (a1 : Int32) : Option Bool :=
  bnd (rd 60 (mA M 255) a1) fun v5 =>
  bnd (rd 60 (mA M 256) a1) fun v6 =>
  bnd (rd 60 (mA M 254) a1) fun v7 =>
  if v7 = 0 then
    if (fM_isSpotAt v5 v6) = true then
      bnd (fM_hemWhy M v5 v6) fun v8 =>
      if v8 = 0 then
        some true
      else
        some false
    else
      some false
  else
  if v7 = 1 then
    if (fM_areStitches v6) = true then
      bnd (fM_maySew M v5 v6) fun v10 =>
      if v10 = true then
        some true
      else
        some false
    else
      some false
  else
  if v7 = 2 then
    if (fM_isSpot M v5) = true then
      if (fM_isIn (Int32.toInt64 v6) 0 1) = true then
        bnd (fM_stepWhy M v5 v6) fun v12 =>
        if v12 = 0 then
          some true
        else
          some false
      else
        some false
    else
      some false
  else
  if v7 = 3 then
    bnd (fM_isTravelling M v5) fun v14 =>
    if v14 = true then
      bnd (rd 60 (mA M 257) a1) fun v16 =>
      if (fM_isWalk v6 v16) = true then
        some true
      else
        some false
    else
      some false
  else
  if v7 = 4 then
    bnd (fM_mayRip M v5) fun v17 =>
    some v17
  else
    some (fM_areHours v5)
def fM_does (M : zM) (a1 : Int32) : Option (Int32 × zM) :=
  bnd (rd 60 (mA M 255) a1) fun v5 =>
  bnd (rd 60 (mA M 256) a1) fun v6 =>
  bnd (rd 60 (mA M 254) a1) fun v7 =>
  if v7 = 0 then
    bnd2 (fM_movesHem M v5 v6) fun v9 M8 =>
    some (v9, M8)
  else
  if v7 = 1 then
    bnd2 (fM_sews M v5 v6) fun v12 M11 =>
    some (v12, M11)
  else
  if v7 = 2 then
    bnd2 (fM_steps M v5 v6) fun v15 M14 =>
    some (v15, M14)
  else
  if v7 = 3 then
    bnd (rd 60 (mA M 257) a1) fun v17 =>
    bnd2 (fM_tells M v5 v6 v17) fun v19 M18 =>
    some (v19, M18)
  else
  if v7 = 4 then
    bnd2 (fM_rips M v5) fun v22 M21 =>
    some (v22, M21)
  else
    bnd2 (fM_passes M v5) fun v25 M24 =>
    some (v25, M24)
def fM_isDone (M : zM) (a1 : Int32) : Option (Bool × zM) :=
  bnd (fM_may M a1) fun v2 =>
  if v2 = true then
    bnd2 (fM_does M a1) fun v5 M4 =>
    bnd (some (wmF M4 29 v5)) fun M7 =>
    some (true, M7)
  else
    some (false, M)
def fM_doesAll_j141 (M : zM) (a1 : Int32) (a3 : Int32) (a4 : Bool) (a0t : Bool) (a1t : Int32) : Option ((zM × Int32 × Int32 × Int32 × Bool) ⊕ (Int32 × zM)) :=
  some (.inl (M, a1, (a1t - (fM_truth a0t)), a3, a4))
def fM_doesAll_j129 (M : zM) (a1 : Int32) (a2 : Int32) (a4 : Bool) (a5 : Bool) (a0t : Int32) : Option ((zM × Int32 × Int32 × Int32 × Bool) ⊕ (Int32 × zM)) :=
  if a5 = true then
    fM_doesAll_j141 M a1 a0t a4 false a2
  else
    fM_doesAll_j141 M a1 a0t a4 true a2
def fM_doesAll_j106 (M : zM) (a1 : Int32) (a2 : Int32) (a3 : Int32) (a4 : Bool) (a0t : Bool) : Option ((zM × Int32 × Int32 × Int32 × Bool) ⊕ (Int32 × zM)) :=
  if a0t = true then
    bnd (rd 2 (mA M 258) (a2 - 1)) fun v44 =>
    fM_doesAll_j129 M a1 a2 a4 a0t (v44 + 1)
  else
    fM_doesAll_j129 M a1 a2 a4 a0t (a3 + 1)
def fM_doesAll_b9 (M : zM) (a1 : Int32) (a2 : Int32) (a3 : Int32) (a4 : Bool) : Option ((zM × Int32 × Int32 × Int32 × Bool) ⊕ (Int32 × zM)) :=
  if a4 = true then
    if a3 < (mF M 26) then
      if a1 < 40 then
        bnd (rd 60 (mA M 254) a3) fun v45 =>
        if v45 = 6 then
          bnd (wr 2 (mA M 258) a2 a3) fun A54 =>
          bnd (some (wmA M 258 A54)) fun M55 =>
          bnd (rd 60 (mA M55 255) a3) fun v56 =>
          bnd (wr 2 (mA M55 259) a2 v56) fun A57 =>
          bnd (some (wmA M55 259 A57)) fun M58 =>
          some (.inl (M58, a1, (a2 + 1), (a3 + 1), a4))
        else
          bnd (rd 60 (mA M 254) a3) fun v46 =>
          if v46 = 7 then
            bnd (rd 2 (mA M 259) (a2 - 1)) fun v50 =>
            bnd (wr 2 (mA M 259) (a2 - 1) (v50 - 1)) fun A51 =>
            bnd (some (wmA M 259 A51)) fun M52 =>
            bnd (rd 2 (mA M52 259) (a2 - 1)) fun v53 =>
            if 0 < v53 then
              fM_doesAll_j106 M52 a1 a2 a3 a4 true
            else
              fM_doesAll_j106 M52 a1 a2 a3 a4 false
          else
            bnd2 (fM_isDone M a3) fun v48 M47 =>
            some (.inl (M47, (a1 + (fM_truth v48)), a2, (a3 + 1), v48))
      else
        some (.inr (a1, M))
    else
      some (.inr (a1, M))
  else
    some (.inr (a1, M))
def fM_doesAll (M : zM) : Option (Int32 × zM) :=
  iter (fun s => fM_doesAll_b9 s.1 s.2.1 s.2.2.1 s.2.2.2.1 s.2.2.2.2) fu (M, 0, 0, 0, true)
def fM_runScript_j56 (M : zM) : Option ((zM) ⊕ (Int32 × zM)) :=
  bnd (fM_closes M) fun M4 =>
  some (.inl M4)
def fM_runScript_j82 (M : zM) : Option (Int32 × zM) :=
  bnd2 (fM_endsText M) fun v9 M8 =>
  if v9 = true then
    bnd (fM_laysAside M8) fun M11 =>
    bnd2 (fM_doesAll M11) fun v14 M13 =>
    bnd (fM_keeps M13) fun M16 =>
    some (v14, M16)
  else
    some (0, M8)
def fM_runScript_j63 (M : zM) : Option (Int32 × zM) :=
  if (fM_isGood M) = true then
    if 0 < (mF M 28) then
      bnd (fM_wrong M 1) fun M6 =>
      fM_runScript_j82 M6
    else
      fM_runScript_j82 M
  else
    fM_runScript_j82 M
def fM_runScript_b19 (M : zM) : Option ((zM) ⊕ (Int32 × zM)) :=
  if (fM_isGood M) = true then
    if (mF M 6) = 0 then
      Option.map .inr (fM_runScript_j63 M)
    else
      bnd (fM_command M) fun M18 =>
      if (mF M18 28) = (mF M 28) then
        bnd (fM_mustSign M18 59) fun M20 =>
        fM_runScript_j56 M20
      else
        fM_runScript_j56 M18
  else
    Option.map .inr (fM_runScript_j63 M)
def fM_runScript (M : zM) : Option (Int32 × zM) :=
  bnd (fM_beginsText M) fun M22 =>
  bnd (some (wmF M22 26 0)) fun M24 =>
  bnd (some (wmF M24 27 0)) fun M25 =>
  bnd (some (wmF M25 28 0)) fun M26 =>
  iter (fun s => fM_runScript_b19 s) fu M26
def fG_clear_b10 (G : zG) (a1 : Int32) : Option ((zG × Int32) ⊕ (zG)) :=
  if a1 < 9 then
    bnd (wr 9 (gA G 5) a1 180) fun A17 =>
    bnd (some (wgA G 5 A17)) fun G18 =>
    some (.inl (G18, (a1 + 1)))
  else
    bnd (some (wgF G 0 2 0)) fun G13 =>
    bnd (some (wgF G13 0 3 500)) fun G14 =>
    bnd (some (wgF G14 0 4 0)) fun G15 =>
    bnd (some (wgF G15 0 6 0)) fun G16 =>
    some (.inr G16)
def fG_clear (G : zG) : Option zG :=
  bnd (some (wgF G 1 0 0)) fun G19 =>
  iter (fun s => fG_clear_b10 s.1 s.2) fu (G19, 0)
def fI_expectWord (I : zI) : Option (Int64 × zI) :=
  bnd (fI_next I) fun I1 =>
  if (iF I1 4) = 1 then
    some ((iN I1), I1)
  else
    bnd2 (fI_fail I1 1) fun v4 I3 =>
    some (0, I3)
def fC_addGore_j52 (G : zG) (a1 : Int32) (a0t : Int32) (a1t : Int32) : Option zG :=
  bnd (wr 12 (gA G 3) a1t a0t) fun A17 =>
  bnd (some (wgA G 3 A17)) fun G18 =>
  bnd (wr 12 (gA G18 2) (gF G18 1 0) a1) fun A19 =>
  bnd (some (wgA G18 2 A19)) fun G20 =>
  bnd (wr 12 (gA G20 4) (gF G20 1 0) 20) fun A21 =>
  bnd (some (wgA G20 4 A21)) fun G22 =>
  bnd (some (wgF G22 1 0 ((gF G22 1 0) + 1))) fun G23 =>
  some G23
def fC_addGore (G : zG) (a1 : Int32) : Option zG :=
  if (gF G 1 0) < 12 then
    if (gF G 1 0) = 0 then
      fC_addGore_j52 G a1 0 (gF G 1 0)
    else
      bnd (rd 12 (gA G 3) ((gF G 1 0) - 1)) fun v24 =>
      bnd (rd 12 (gA G 2) ((gF G 1 0) - 1)) fun v25 =>
      fC_addGore_j52 G a1 (v24 + v25) (gF G 1 0)
  else
    some G
def fD_readWidths_j112 (I : zI) (G : zG) : Option (Bool × zI × zG) :=
  bnd2 (fI_fail I 2) fun v7 I6 =>
  some (v7, I6, G)
def fD_readWidths_j65 (I : zI) (G : zG) (a2 : Int32) (a3 : Int32) : Option ((zI × zG × Int32 × Int32) ⊕ (Bool × zI × zG)) :=
  if (iF I 4) = 2 then
    if (iF I 6) < 10 then
      Option.map .inr (fD_readWidths_j112 I G)
    else
      if 350 < (iF I 6) then
        Option.map .inr (fD_readWidths_j112 I G)
      else
        if 360 < (a2 + (iF I 6)) then
          Option.map .inr (fD_readWidths_j112 I G)
        else
          bnd (fC_addGore G (iF I 6)) fun G1 =>
          some (.inl (I, G1, (a2 + (iF I 6)), (a3 + 1)))
  else
    bnd2 (fI_fail I 1) fun v4 I3 =>
    some (.inr (v4, I3, G))
def fD_readWidths_b21 (I : zI) (G : zG) (a2 : Int32) (a3 : Int32) : Option ((zI × zG × Int32 × Int32) ⊕ (Bool × zI × zG)) :=
  if 12 < a3 then
    bnd2 (fI_fail I 4) fun v10 I9 =>
    some (.inr (v10, I9, G))
  else
    bnd (fI_next I) fun I12 =>
    if 0 < a3 then
      if (fI_isSign I12 59) = true then
        if a2 = 360 then
          some (.inr (true, I12, G))
        else
          bnd2 (fI_fail I12 3) fun v15 I14 =>
          if v15 = true then
            some (.inr (true, I14, G))
          else
            some (.inr (false, I14, G))
      else
        fD_readWidths_j65 I12 G a2 a3
    else
      fD_readWidths_j65 I12 G a2 a3
def fD_readWidths (I : zI) (G : zG) : Option (Bool × zI × zG) :=
  bnd2 (fI_expectWord I) fun v18 I17 =>
  if v18 = 444200870501 then
    iter (fun s => fD_readWidths_b21 s.1 s.2.1 s.2.2.1 s.2.2.2) fu (I17, G, 0, 0)
  else
    bnd2 (fI_fail I17 1) fun v21 I20 =>
    some (v21, I20, G)
def fD_readSpot (I : zI) (G : zG) (a2 : Bool) : Option (Bool × zI × zG) :=
  if (fG_hasRoomForSpot G) = true then
    bnd2 (fI_expectWord I) fun v2 I1 =>
    if v2 = 0 then
      some (false, I1, G)
    else
      bnd (fG_spotNamed G v2) fun v4 =>
      if v4 = (-1) then
        bnd2 (fI_expectNumber I1 0 8) fun v7 I6 =>
        if v7 = (-1) then
          some (false, I6, G)
        else
          bnd2 (fI_expectNumber I6 0 359) fun v10 I9 =>
          if v10 = (-1) then
            some (false, I9, G)
          else
            bnd2 (fG_settle G v2 v7 v10 a2) fun v13 G12 =>
            some (true, I9, G12)
      else
        bnd2 (fI_fail I1 3) fun v16 I15 =>
        some (v16, I15, G)
  else
    bnd2 (fI_fail I 4) fun v19 I18 =>
    some (v19, I18, G)
def fD_readLabel (I : zI) (G : zG) : Option (Bool × zI × zG) :=
  if (fG_hasRoomForLabel G) = true then
    bnd2 (fI_expectWord I) fun v2 I1 =>
    bnd (fW_letterCount v2) fun v4 =>
    if v4 = 0 then
      some (false, I1, G)
    else
      bnd2 (fI_expectNumber I1 0 8) fun v7 I6 =>
      if v7 = (-1) then
        some (false, I6, G)
      else
        bnd2 (fI_expectNumber I6 0 359) fun v10 I9 =>
        if v10 = (-1) then
          some (false, I9, G)
        else
          bnd (fG_labelHindrance G v4 v7 v10) fun v12 =>
          if v12 = 0 then
            bnd2 (fG_sewLabelOn G v4 v7 v10) fun v15 G14 =>
            some (true, I9, G14)
          else
            bnd2 (fI_fail I9 5) fun v18 I17 =>
            some (v18, I17, G)
  else
    bnd2 (fI_fail I 4) fun v21 I20 =>
    some (v21, I20, G)
def fD_readHem (I : zI) (G : zG) : Option (Bool × zI × zG) :=
  bnd2 (fI_expectNumber I 0 8) fun v2 I1 =>
  if v2 = (-1) then
    some (false, I1, G)
  else
    bnd2 (fI_expectNumber I1 0 359) fun v5 I4 =>
    if v5 = (-1) then
      some (false, I4, G)
    else
      bnd (fG_hemHindrance G v2 v5) fun v7 =>
      if v7 = 0 then
        bnd2 (fG_shiftHem G v2 v5) fun v10 G9 =>
        some (true, I4, G9)
      else
        bnd2 (fI_fail I4 5) fun v13 I12 =>
        some (v13, I12, G)
def fD_readSew (I : zI) (G : zG) : Option (Bool × zI × zG) :=
  bnd2 (fI_expectNumber I 0 ((gF G 1 0) - 1)) fun v2 I1 =>
  if v2 = (-1) then
    some (false, I1, G)
  else
    bnd2 (fI_expectNumber I1 1 99) fun v5 I4 =>
    if v5 = (-1) then
      some (false, I4, G)
    else
      bnd (fG_canSew G v2 v5) fun v7 =>
      if v7 = true then
        bnd2 (fG_addStitches G v2 v5) fun v10 G9 =>
        some (true, I4, G9)
      else
        bnd2 (fI_fail I4 5) fun v13 I12 =>
        some (v13, I12, G)
def fD_readRip (I : zI) (G : zG) : Option (Bool × zI × zG) :=
  bnd2 (fI_expectNumber I 0 ((gF G 1 0) - 1)) fun v2 I1 =>
  if v2 = (-1) then
    some (false, I1, G)
  else
    bnd (fC_isTorn G v2) fun v4 =>
    if v4 = true then
      bnd2 (fI_fail I1 5) fun v10 I9 =>
      some (v10, I9, G)
    else
      bnd2 (fG_openSeam G v2) fun v7 G6 =>
      some (true, I1, G6)
def fD_readWalk_j120 (I : zI) (G : zG) (a7 : Int32) (a0t : Bool) (p1t : Nat) : Option (Bool × zI × zG) :=
  bnd2 (fP_setOut G p1t (b2i a0t) a7) fun v8 G7 =>
  some (true, I, G7)
def fD_readWalk_j81 (I : zI) (G : zG) (a4 : Int32) (a5 : Int64) : Option (Bool × zI × zG) :=
  bnd2 (fI_expectNumber I 0 359) fun v4 I3 =>
  if v4 = (-1) then
    some (false, I3, G)
  else
    bnd (rix 10 a4) fun p6 =>
    if a5 = 1700885364 then
      fD_readWalk_j120 I3 G v4 false p6
    else
      fD_readWalk_j120 I3 G v4 true p6
def fD_readWalk (I : zI) (G : zG) : Option (Bool × zI × zG) :=
  bnd2 (fI_expectWord I) fun v11 I10 =>
  if v11 = 0 then
    some (false, I10, G)
  else
    bnd (fG_spotNamed G v11) fun v13 =>
    if v13 = (-1) then
      bnd2 (fI_fail I10 4) fun v26 I25 =>
      some (v26, I25, G)
    else
      bnd (rix 10 v13) fun p15 =>
      if (gB G (7 + p15)) = true then
        bnd2 (fI_expectWord I10) fun v17 I16 =>
        if v17 = 1700885364 then
          fD_readWalk_j81 I16 G v13 v17
        else
          if v17 = 2003137396 then
            fD_readWalk_j81 I16 G v13 v17
          else
            bnd2 (fI_fail I16 1) fun v20 I19 =>
            some (v20, I19, G)
      else
        bnd2 (fI_fail I10 5) fun v23 I22 =>
        some (v23, I22, G)
def fD_readThread (I : zI) (G : zG) : Option (Bool × zI × zG) :=
  bnd2 (fI_expectNumber I 0 9999) fun v3 I2 =>
  if v3 = (-1) then
    some (false, I2, G)
  else
    bnd (some (wgF G 0 3 v3)) fun G5 =>
    some (true, I2, G5)
def fD_readStatement_j150 (I : zI) (G : zG) (a4 : Int32) : Option (Bool × zI × zG) :=
  if a4 = (-1) then
    some (false, I, G)
  else
    some (true, I, G)
def fD_readStatement (I : zI) (G : zG) : Option (Bool × zI × zG) :=
  if (iN I) = 1953462126 then
    bnd3 (fD_readSpot I G false) fun v40 I38 G39 =>
    some (v40, I38, G39)
  else
    if (iN I) = 123581014175598 then
      bnd3 (fD_readSpot I G true) fun v36 I34 G35 =>
      some (v36, I34, G35)
    else
      if (iN I) = 465490306412 then
        bnd3 (fD_readLabel I G) fun v32 I30 G31 =>
        some (v32, I30, G31)
      else
        if (iN I) = 6841709 then
          bnd3 (fD_readHem I G) fun v28 I26 G27 =>
          some (v28, I26, G27)
        else
          if (iN I) = 7562615 then
            bnd3 (fD_readSew I G) fun v24 I22 G23 =>
            some (v24, I22, G23)
          else
            if (iN I) = 7498096 then
              bnd3 (fD_readRip I G) fun v20 I18 G19 =>
              some (v20, I18, G19)
            else
              if (iN I) = 2002873451 then
                bnd3 (fD_readWalk I G) fun v16 I14 G15 =>
                some (v16, I14, G15)
              else
                if (iN I) = 127991944667492 then
                  bnd3 (fD_readThread I G) fun v12 I10 G11 =>
                  some (v12, I10, G11)
                else
                  if (iN I) = 1885434739 then
                    bnd2 (fI_expectNumber I 1 240) fun v5 I4 =>
                    if v5 = (-1) then
                      fD_readStatement_j150 I4 G v5
                    else
                      bnd2 (fG_letPass G v5) fun v8 G7 =>
                      fD_readStatement_j150 I4 G7 v5
                  else
                    bnd2 (fI_fail I 1) fun v2 I1 =>
                    some (v2, I1, G)
def fD_read_b23 (I : zI) (G : zG) (a2 : Int32) : Option ((zI × zG × Int32) ⊕ (Bool × zI × zG)) :=
  if 600 < a2 then
    bnd2 (fI_fail I 1) fun v2 I1 =>
    some (.inr (v2, I1, G))
  else
    bnd (fI_next I) fun I4 =>
    if (iF I4 4) = 0 then
      some (.inr (true, I4, G))
    else
      bnd3 (fD_readStatement I4 G) fun v8 I6 G7 =>
      if v8 = true then
        bnd2 (fI_expectSign I6 59) fun v11 I10 =>
        if v11 = true then
          some (.inl (I10, G7, (a2 + 1)))
        else
          some (.inr (false, I10, G7))
      else
        some (.inr (false, I6, G7))
def fD_read (I : zI) (G : zG) : Option (Bool × zI × zG) :=
  bnd (fG_clear G) fun G13 =>
  bnd (fI_start I) fun I15 =>
  bnd3 (fD_readWidths I15 G13) fun v19 I17 G18 =>
  if v19 = true then
    iter (fun s => fD_read_b23 s.1 s.2.1 s.2.2) fu (I17, G18, 0)
  else
    some (false, I17, G18)
def fX_readText (I : zI) (Y : Nat → Int32) (Γ : Nat → zG) : Option ((Int32 ⊕ String) × zI × (Nat → Int32) × (Nat → zG)) :=
  bnd3 (fD_read I (Γ 36)) fun v4 I2 G3 =>
  bnd (some (wiF I2 1 0)) fun I6 =>
  if v4 = true then
    bnd (fG_copyFrom ((gup Γ 36 G3) 10) ((gup Γ 36 G3) 36)) fun G7 =>
    bnd (fY_forget Y) fun Y9 =>
    some (.inl (gF ((gup (gup Γ 36 G3) 10 G7) 10) 0 4), I6, Y9, (gup (gup Γ 36 G3) 10 G7))
  else
    some (.inr "java/lang/IllegalArgumentException", I6, Y, (gup Γ 36 G3))
def fw_readText (I : zI) (Y : Nat → Int32) (Γ : Nat → zG) (ou : Nat → Int64) (j : Nat) : Option (Int32 × zI × (Nat → Int32) × (Nat → zG) × (Nat → Int64) × Nat) :=
  bnd4 (fX_readText I Y Γ) fun r9 I2 Y3 Γ4 => Sum.elim (fun v7 =>
    bnd (some ((vp_updL ou 0 (Int32.toInt64 v7)))) fun ou8 =>
    some (0, I2, Y3, Γ4, ou8, j)
    ) (fun E6 =>
    if E6 = "java/lang/IllegalArgumentException" then
      some (1, I2, Y3, Γ4, ou, (j + 1))
    else
      none
    ) r9
def fM_begins_b33 (M : zM) (a1 : Int32) : Option ((zM × Int32) ⊕ (zM)) :=
  if a1 < 9 then
    bnd (wr 160 (mA M 249) (5 + a1) 180) fun A13 =>
    bnd (some (wmA M 249 A13)) fun M14 =>
    some (.inl (M14, (a1 + 1)))
  else
    some (.inr M)
def fM_begins_b2 (M : zM) (a1 : Int32) : Option ((zM × Int32) ⊕ (zM)) :=
  if a1 < 160 then
    bnd (wr 160 (mA M 249) a1 0) fun A11 =>
    bnd (some (wmA M 249 A11)) fun M12 =>
    some (.inl (M12, (a1 + 1)))
  else
    bnd (some (wmA M 249 (upd (mA M 249) 3 500))) fun M10 =>
    Option.map .inr (iter (fun s => fM_begins_b33 s.1 s.2) fu (M10, 0))
def fM_begins (M : zM) : Option zM :=
  iter (fun s => fM_begins_b2 s.1 s.2) fu (M, 0)
def fM_mustWord_j20 (M : zM) : Option zM :=
  if (fM_isGood M) = true then
    bnd (fM_goOnRead M) fun M1 =>
    some M1
  else
    some M
def fM_mustWord (M : zM) (a1 : Int64) : Option zM :=
  if (fM_isGood M) = true then
    if (fM_isWord M a1) = true then
      fM_mustWord_j20 M
    else
      bnd (fM_wrong M 1) fun M3 =>
      fM_mustWord_j20 M3
  else
    fM_mustWord_j20 M
def fM_stays (M : zM) (a1 : Int32) (a2 : Int32) : Option (Int32 × zM) :=
  if (fM_isGood M) = true then
    bnd2 (fM_looks M a1 a2) fun v2 M1 =>
    some (v2, M1)
  else
    some (a1, M)
def fM_addsGore (M : zM) (a1 : Int32) : Option zM :=
  bnd (wr 160 (mA M 249) (14 + ((mA M 249) 0)) a1) fun A6 =>
  bnd (some (wmA M 249 A6)) fun M7 =>
  bnd (wr 160 (mA M7 249) (26 + ((mA M7 249) 0)) 20) fun A8 =>
  bnd (some (wmA M7 249 A8)) fun M9 =>
  bnd (some (wmA M9 249 (upd (mA M9 249) 0 (((mA M9 249) 0) + 1)))) fun M10 =>
  some M10
def fM_widthHere_j54 (M : zM) (a3 : Int32) : Option zM :=
  if (fM_isGood M) = true then
    bnd (fM_addsGore M a3) fun M6 =>
    bnd (fM_goOnRead M6) fun M8 =>
    some M8
  else
    some M
def fM_widthHere_j22 (M : zM) (a0t : Int32) : Option zM :=
  bnd2 (fM_stays M 10 a0t) fun v2 M1 =>
  if (fM_isGood M1) = true then
    if ((mA M1 249) 0) = 12 then
      bnd (fM_wrong M1 4) fun M4 =>
      fM_widthHere_j54 M4 v2
    else
      fM_widthHere_j54 M1 v2
  else
    fM_widthHere_j54 M1 v2
def fM_widthHere (M : zM) (a1 : Int32) : Option zM :=
  if (360 - a1) < 350 then
    fM_widthHere_j22 M (360 - a1)
  else
    fM_widthHere_j22 M 350
def fM_goresLine_j67 (M : zM) : Option zM :=
  bnd (fM_mustSign M 59) fun M5 =>
  some M5
def fM_goresLine_j37 (M : zM) : Option zM :=
  if (fM_isSign M 59) = true then
    bnd (fM_beginning M ((mA M 249) 0)) fun v1 =>
    if v1 = 360 then
      fM_goresLine_j67 M
    else
      bnd (fM_wrong M 3) fun M3 =>
      fM_goresLine_j67 M3
  else
    fM_goresLine_j67 M
def fM_goresLine_b5 (M : zM) : Option ((zM) ⊕ (zM)) :=
  if (fM_isGood M) = true then
    if (mF M 6) = 2 then
      bnd (fM_beginning M ((mA M 249) 0)) fun v7 =>
      bnd (fM_widthHere M v7) fun M9 =>
      some (.inl M9)
    else
      Option.map .inr (fM_goresLine_j37 M)
  else
    Option.map .inr (fM_goresLine_j37 M)
def fM_goresLine (M : zM) : Option zM :=
  bnd (fM_widthHere M 0) fun M11 =>
  iter (fun s => fM_goresLine_b5 s) fu M11
def fM_beginsLine_j10 (M : zM) : Option zM :=
  if (fM_isGood M) = true then
    bnd (fM_goOnRead M) fun M1 =>
    some M1
  else
    some M
def fM_beginsLine (M : zM) (a1 : Int32) (a2 : Int32) : Option zM :=
  if a1 = a2 then
    bnd (fM_wrong M 4) fun M3 =>
    fM_beginsLine_j10 M3
  else
    fM_beginsLine_j10 M
def fM_wordHere_j20 (M : zM) : Option (Int64 × zM) :=
  some ((mN M), M)
def fM_wordHere (M : zM) : Option (Int64 × zM) :=
  if (fM_isGood M) = true then
    if (mF M 6) = 1 then
      fM_wordHere_j20 M
    else
      bnd (fM_wrong M 1) fun M1 =>
      fM_wordHere_j20 M1
  else
    fM_wordHere_j20 M
def fM_spotLine_j49 (M : zM) (a1 : Int32) (a2 : Int64) : Option zM :=
  bnd2 (fM_more M 0 8) fun v5 M4 =>
  bnd2 (fM_more M4 0 359) fun v8 M7 =>
  if (fM_isGood M7) = true then
    bnd2 (fM_addsSpot M7 a2 a1 v5 v8) fun v11 M10 =>
    bnd (some (wmF M10 29 v11)) fun M13 =>
    some M13
  else
    some M7
def fM_spotLine_j38 (M : zM) (a1 : Int32) (a2 : Int64) : Option zM :=
  if (fM_isGood M) = true then
    bnd (fM_goOnRead M) fun M2 =>
    fM_spotLine_j49 M2 a1 a2
  else
    fM_spotLine_j49 M a1 a2
def fM_spotLine (M : zM) (a1 : Int32) : Option zM :=
  bnd (fM_beginsLine M ((mA M 249) 1) 10) fun M14 =>
  bnd2 (fM_wordHere M14) fun v17 M16 =>
  if (fM_isGood M16) = true then
    bnd (fM_spotNamed M16 v17) fun v19 =>
    if v19 = (-1) then
      fM_spotLine_j38 M16 a1 v17
    else
      bnd (fM_wrong M16 3) fun M21 =>
      fM_spotLine_j38 M21 a1 v17
  else
    fM_spotLine_j38 M16 a1 v17
def fM_labelLine_j69 (M : zM) (a1 : Int64) (a3 : Int32) (a4 : Int32) : Option zM :=
  if (fM_isGood M) = true then
    bnd2 (fM_addsLabel M a1 a3 a4) fun v13 M12 =>
    bnd (some (wmF M12 29 v13)) fun M15 =>
    bnd (fM_goOnRead M15) fun M16 =>
    some M16
  else
    some M
def fM_labelLine_j28 (M : zM) (a1 : Int64) : Option zM :=
  bnd2 (fM_more M 0 8) fun v3 M2 =>
  bnd2 (fM_stays M2 0 359) fun v6 M5 =>
  if (fM_isGood M5) = true then
    bnd (fM_labelWhy M5 a1 v3 v6) fun v8 =>
    if v8 = 0 then
      fM_labelLine_j69 M5 a1 v3 v6
    else
      bnd (fM_wrong M5 5) fun M10 =>
      fM_labelLine_j69 M10 a1 v3 v6
  else
    fM_labelLine_j69 M5 a1 v3 v6
def fM_labelLine (M : zM) : Option zM :=
  bnd (fM_beginsLine M ((mA M 249) 2) 8) fun M18 =>
  bnd2 (fM_wordHere M18) fun v21 M20 =>
  if (fM_isGood M20) = true then
    bnd (fM_goOnRead M20) fun M23 =>
    fM_labelLine_j28 M23 v21
  else
    fM_labelLine_j28 M20 v21
def fM_hemLine_j42 (M : zM) (a1 : Int32) (a2 : Int32) : Option zM :=
  if (fM_isGood M) = true then
    bnd2 (fM_movesHem M a1 a2) fun v3 M2 =>
    bnd (some (wmF M2 29 v3)) fun M5 =>
    bnd (fM_goOnRead M5) fun M6 =>
    some M6
  else
    some M
def fM_hemLine (M : zM) : Option zM :=
  bnd (fM_goOnRead M) fun M8 =>
  bnd2 (fM_more M8 0 8) fun v11 M10 =>
  bnd2 (fM_stays M10 0 359) fun v14 M13 =>
  if (fM_isGood M13) = true then
    bnd (fM_hemWhy M13 v11 v14) fun v16 =>
    if v16 = 0 then
      fM_hemLine_j42 M13 v11 v14
    else
      bnd (fM_wrong M13 5) fun M18 =>
      fM_hemLine_j42 M18 v11 v14
  else
    fM_hemLine_j42 M13 v11 v14
def fM_sewLine_j47 (M : zM) (a1 : Int32) (a2 : Int32) : Option zM :=
  if (fM_isGood M) = true then
    bnd2 (fM_sews M a1 a2) fun v3 M2 =>
    bnd (some (wmF M2 29 v3)) fun M5 =>
    bnd (fM_goOnRead M5) fun M6 =>
    some M6
  else
    some M
def fM_sewLine (M : zM) : Option zM :=
  bnd (fM_goOnRead M) fun M8 =>
  bnd2 (fM_more M8 0 (((mA M8 249) 0) - 1)) fun v11 M10 =>
  bnd2 (fM_stays M10 1 99) fun v14 M13 =>
  if (fM_isGood M13) = true then
    bnd (fM_maySew M13 v11 v14) fun v16 =>
    if v16 = true then
      fM_sewLine_j47 M13 v11 v14
    else
      bnd (fM_wrong M13 5) fun M18 =>
      fM_sewLine_j47 M18 v11 v14
  else
    fM_sewLine_j47 M13 v11 v14
def fM_ripLine_j38 (M : zM) (a1 : Int32) : Option zM :=
  if (fM_isGood M) = true then
    bnd2 (fM_rips M a1) fun v3 M2 =>
    bnd (some (wmF M2 29 v3)) fun M5 =>
    bnd (fM_goOnRead M5) fun M6 =>
    some M6
  else
    some M
def fM_ripLine (M : zM) : Option zM :=
  bnd (fM_goOnRead M) fun M8 =>
  bnd2 (fM_stays M8 0 (((mA M8 249) 0) - 1)) fun v11 M10 =>
  if (fM_isGood M10) = true then
    bnd (fM_mayRip M10 v11) fun v13 =>
    if v13 = true then
      fM_ripLine_j38 M10 v11
    else
      bnd (fM_wrong M10 5) fun M15 =>
      fM_ripLine_j38 M15 v11
  else
    fM_ripLine_j38 M10 v11
def fM_directionHere_j32 (M : zM) : Option (Int32 × zM) :=
  if (fM_isGood M) = true then
    bnd (fM_goOnRead M) fun M1 =>
    some ((fM_truth (fM_isWord M 759412)), M1)
  else
    some ((fM_truth (fM_isWord M 759412)), M)
def fM_directionHere (M : zM) : Option (Int32 × zM) :=
  if (fM_isGood M) = true then
    if (fM_isWord M 165492) = true then
      fM_directionHere_j32 M
    else
      if (fM_isWord M 759412) = true then
        fM_directionHere_j32 M
      else
        bnd (fM_wrong M 1) fun M3 =>
        fM_directionHere_j32 M3
  else
    fM_directionHere_j32 M
def fM_walkLine_j74 (M : zM) (a3 : Int32) : Option zM :=
  bnd2 (fM_directionHere M) fun v11 M10 =>
  bnd2 (fM_more M10 0 359) fun v14 M13 =>
  if (fM_isGood M13) = true then
    bnd2 (fM_tells M13 a3 v11 v14) fun v17 M16 =>
    bnd (some (wmF M16 29 v17)) fun M19 =>
    some M19
  else
    some M13
def fM_walkLine_j63 (M : zM) (a3 : Int32) : Option zM :=
  if (fM_isGood M) = true then
    bnd (fM_goOnRead M) fun M8 =>
    fM_walkLine_j74 M8 a3
  else
    fM_walkLine_j74 M a3
def fM_walkLine_j43 (M : zM) (a3 : Int32) : Option zM :=
  if (fM_isGood M) = true then
    bnd (fM_travels M a3) fun v4 =>
    if v4 = true then
      fM_walkLine_j63 M a3
    else
      bnd (fM_wrong M 5) fun M6 =>
      fM_walkLine_j63 M6 a3
  else
    fM_walkLine_j63 M a3
def fM_walkLine_j25 (M : zM) (a0t : Int32) : Option zM :=
  if (fM_isGood M) = true then
    if a0t = (-1) then
      bnd (fM_wrong M 4) fun M2 =>
      fM_walkLine_j43 M2 a0t
    else
      fM_walkLine_j43 M a0t
  else
    fM_walkLine_j43 M a0t
def fM_walkLine (M : zM) : Option zM :=
  bnd (fM_goOnRead M) fun M20 =>
  bnd2 (fM_wordHere M20) fun v23 M22 =>
  if (fM_isGood M22) = true then
    bnd (fM_spotNamed M22 v23) fun v25 =>
    fM_walkLine_j25 M22 v25
  else
    fM_walkLine_j25 M22 (-1)
def fM_threadLine (M : zM) : Option zM :=
  bnd (fM_goOnRead M) fun M2 =>
  bnd2 (fM_more M2 0 9999) fun v5 M4 =>
  if (fM_isGood M4) = true then
    bnd (some (wmA M4 249 (upd (mA M4 249) 3 v5))) fun M7 =>
    some M7
  else
    some M4
def fM_passLine (M : zM) : Option zM :=
  bnd (fM_goOnRead M) fun M2 =>
  bnd2 (fM_more M2 1 240) fun v5 M4 =>
  if (fM_isGood M4) = true then
    bnd2 (fM_passes M4 v5) fun v8 M7 =>
    bnd (some (wmF M7 29 v8)) fun M10 =>
    some M10
  else
    some M4
def fM_statement (M : zM) : Option zM :=
  if (fM_isWord M 671470) = true then
    bnd (fM_spotLine M 0) fun M19 =>
    some M19
  else
    if (fM_isWord M 542723566) = true then
      bnd (fM_spotLine M 1) fun M17 =>
      some M17
    else
      if (fM_isWord M 12617900) = true then
        bnd (fM_labelLine M) fun M15 =>
        some M15
      else
        if (fM_isWord M 8365) = true then
          bnd (fM_hemLine M) fun M13 =>
          some M13
        else
          if (fM_isWord M 19639) = true then
            bnd (fM_sewLine M) fun M11 =>
            some M11
          else
            if (fM_isWord M 18736) = true then
              bnd (fM_ripLine M) fun M9 =>
              some M9
            else
              if (fM_isWord M 755083) = true then
                bnd (fM_walkLine M) fun M7 =>
                some M7
              else
                if (fM_isWord M 680072228) = true then
                  bnd (fM_threadLine M) fun M5 =>
                  some M5
                else
                  if (fM_isWord M 525939) = true then
                    bnd (fM_passLine M) fun M3 =>
                    some M3
                  else
                    bnd (fM_wrong M 1) fun M1 =>
                    some M1
def fM_goesBack (M : zM) : Option zM :=
  bnd (fM_copiesRow M 251 0 249 0) fun M1 =>
  some M1
def fM_readText_j50 (M : zM) : Option (Int32 × zM) :=
  bnd2 (fM_endsText M) fun v3 M2 =>
  if v3 = true then
    bnd (some (wmF M2 18 0)) fun M5 =>
    some (((mA M5 249) 1), M5)
  else
    bnd (fM_goesBack M2) fun M6 =>
    some (0, M6)
def fM_readText_b23 (M : zM) : Option ((zM) ⊕ (Int32 × zM)) :=
  if (fM_isGood M) = true then
    if (mF M 6) = 0 then
      Option.map .inr (fM_readText_j50 M)
    else
      bnd (fM_statement M) fun M8 =>
      bnd (fM_mustSign M8 59) fun M10 =>
      some (.inl M10)
  else
    Option.map .inr (fM_readText_j50 M)
def fM_readText (M : zM) : Option (Int32 × zM) :=
  bnd (fM_laysAside M) fun M12 =>
  bnd (fM_beginsText M12) fun M14 =>
  bnd (fM_begins M14) fun M16 =>
  bnd (fM_mustWord M16 7748677) fun M18 =>
  bnd (fM_goresLine M18) fun M20 =>
  iter (fun s => fM_readText_b23 s) fu M20
def fX_truncate_j15 (I : zI) : Option ((Int32 ⊕ String) × zI) :=
  some (.inr "java/lang/IllegalArgumentException", I)
def fX_truncate (I : zI) (a1 : Int32) : Option ((Int32 ⊕ String) × zI) :=
  if a1 < 0 then
    fX_truncate_j15 I
  else
    if (iF I 1) < a1 then
      fX_truncate_j15 I
    else
      bnd (some (wiF I 1 a1)) fun I2 =>
      some (.inl a1, I2)
def fw_truncate (I : zI) (ou : Nat → Int64) (j : Nat) (a1 : Int32) : Option (Int32 × zI × (Nat → Int64) × Nat) :=
  bnd2 (fX_truncate I a1) fun r7 I2 => Sum.elim (fun v5 =>
    bnd (some ((vp_updL ou 0 (Int32.toInt64 v5)))) fun ou6 =>
    some (0, I2, ou6, j)
    ) (fun E4 =>
    if E4 = "java/lang/IllegalArgumentException" then
      some (1, I2, ou, (j + 1))
    else
      none
    ) r7
def fM_truncate (M : zM) (a1 : Int32) : Option (Int32 × zM) :=
  bnd2 (fM_goes M (fM_isIn (Int32.toInt64 a1) 0 (Int32.toInt64 (mF M 2)))) fun v3 M2 =>
  if v3 = true then
    bnd (some (wmF M2 2 a1)) fun M5 =>
    some (a1, M5)
  else
    some (0, M2)
def fI_hasRoom (I : zI) (a1 : Int32) : Bool :=
  if 600 < ((iF I 1) + a1) then
    false
  else
    true
def fI_append_b3 (a1 : Int32) (I : zI) (a2 : Int32) : Option ((zI × Int32) ⊕ (zI)) :=
  if a2 < 0 then
    some (.inr I)
  else
    if (iF I 1) < 600 then
      bnd (wrb 600 (iA I) (iF I 1) (Int8.toInt32 (Int32.toInt8 (Int32.toUInt32 a1 >>> (Int32.toUInt32 a2 &&& Int32.toUInt32 31)).toInt32))) fun A7 =>
      bnd (some (wiA I A7)) fun I8 =>
      bnd (some (wiF I8 1 ((iF I8 1) + 1))) fun I9 =>
      some (.inl (I9, (a2 + (-8))))
    else
      some (.inr I)
def fI_append (I : zI) (a1 : Int32) : Option zI :=
  iter (fun s => fI_append_b3 a1 s.1 s.2) fu (I, 24)
def fX_feed (I : zI) (a1 : Int32) (a2 : Int32) (a3 : Int32) (a4 : Int32) (a5 : Int32) : Option ((Int32 ⊕ String) × zI) :=
  if (fI_hasRoom I 20) = true then
    bnd (fI_append I a1) fun I1 =>
    bnd (fI_append I1 a2) fun I3 =>
    bnd (fI_append I3 a3) fun I5 =>
    bnd (fI_append I5 a4) fun I7 =>
    bnd (fI_append I7 a5) fun I9 =>
    some (.inl (iF I9 1), I9)
  else
    some (.inr "java/lang/IllegalStateException", I)
def fw_feed (I : zI) (ou : Nat → Int64) (j : Nat) (a1 : Int32) (a2 : Int32) (a3 : Int32) (a4 : Int32) (a5 : Int32) : Option (Int32 × zI × (Nat → Int64) × Nat) :=
  bnd2 (fX_feed I a1 a2 a3 a4 a5) fun r7 I2 => Sum.elim (fun v5 =>
    bnd (some ((vp_updL ou 0 (Int32.toInt64 v5)))) fun ou6 =>
    some (0, I2, ou6, j)
    ) (fun E4 =>
    if E4 = "java/lang/IllegalStateException" then
      some (1, I2, ou, (j + 1))
    else
      none
    ) r7
def fM_four_b3 (a1 : Int32) (M : zM) (a2 : Int32) : Option ((zM × Int32) ⊕ (zM)) :=
  if a2 < 0 then
    some (.inr M)
  else
    bnd (wr 600 (mA M 248) (mF M 2) ((a1 >>> (a2 &&& 31)) &&& 255)) fun A7 =>
    bnd (some (wmA M 248 A7)) fun M8 =>
    bnd (some (wmF M8 2 ((mF M8 2) + 1))) fun M9 =>
    some (.inl (M9, (a2 + (-8))))
def fM_four (M : zM) (a1 : Int32) : Option zM :=
  iter (fun s => fM_four_b3 a1 s.1 s.2) fu (M, 24)
def fM_feed_j19 (M : zM) (a1 : Int32) (a2 : Int32) (a3 : Int32) (a4 : Int32) (a5 : Int32) (a0t : Bool) : Option (Int32 × zM) :=
  bnd2 (fM_goes M a0t) fun v2 M1 =>
  if v2 = true then
    bnd (fM_four M1 a1) fun M4 =>
    bnd (fM_four M4 a2) fun M6 =>
    bnd (fM_four M6 a3) fun M8 =>
    bnd (fM_four M8 a4) fun M10 =>
    bnd (fM_four M10 a5) fun M12 =>
    some ((mF M12 2), M12)
  else
    some (0, M1)
def fM_feed (M : zM) (a1 : Int32) (a2 : Int32) (a3 : Int32) (a4 : Int32) (a5 : Int32) : Option (Int32 × zM) :=
  if 600 < ((mF M 2) + 20) then
    fM_feed_j19 M a1 a2 a3 a4 a5 false
  else
    fM_feed_j19 M a1 a2 a3 a4 a5 true
def fw_law_j288 (S : Nat) (xs : Nat → Int32) (I : zI) (C : zC) (Y : Nat → Int32) (Γ : Nat → zG) (D : zD) (O : Nat → Int32) (M : zM) (ou : Nat → Int64) (od : Nat → UInt64) (j : Nat) (a5 : Int32) : Option ((zI × zC × (Nat → Int32) × (Nat → zG) × zD × (Nat → Int32) × zM × (Nat → Int64) × (Nat → UInt64) × Nat × Int32) ⊕ (Bool × zI × zC × (Nat → Int32) × (Nat → zG) × zD × (Nat → Int32) × zM × (Nat → Int64) × (Nat → UInt64) × Nat)) :=
  bnd (rd S xs (a5 + 1)) fun v497 =>
  bnd (rd S xs (a5 + 2)) fun v498 =>
  bnd (rd S xs (a5 + 3)) fun v499 =>
  bnd (rd S xs (a5 + 4)) fun v500 =>
  bnd (rd S xs (a5 + 5)) fun v501 =>
  bnd4 (fw_feed I ou j v497 v498 v499 v500 v501) fun v505 I502 ou503 j504 =>
  bnd (rd S xs (a5 + 1)) fun v507 =>
  bnd (rd S xs (a5 + 2)) fun v508 =>
  bnd (rd S xs (a5 + 3)) fun v509 =>
  bnd (rd S xs (a5 + 4)) fun v510 =>
  bnd (rd S xs (a5 + 5)) fun v511 =>
  bnd2 (fM_feed M v507 v508 v509 v510 v511) fun v513 M512 =>
  if (fM_thrown M512) = v505 then
    if v505 = 0 then
      if (ou503 0) = (Int32.toInt64 v513) then
        some (.inl (I502, C, Y, Γ, D, O, M512, ou503, od, j504, (a5 + 6)))
      else
        some (.inr (false, I502, C, Y, Γ, D, O, M512, ou503, od, j504))
    else
      some (.inl (I502, C, Y, Γ, D, O, M512, ou503, od, j504, (a5 + 6)))
  else
    some (.inr (false, I502, C, Y, Γ, D, O, M512, ou503, od, j504))
def fw_law_j392 (S : Nat) (xs : Nat → Int32) (I : zI) (C : zC) (Y : Nat → Int32) (Γ : Nat → zG) (D : zD) (O : Nat → Int32) (M : zM) (ou : Nat → Int64) (od : Nat → UInt64) (j : Nat) (a5 : Int32) : Option ((zI × zC × (Nat → Int32) × (Nat → zG) × zD × (Nat → Int32) × zM × (Nat → Int64) × (Nat → UInt64) × Nat × Int32) ⊕ (Bool × zI × zC × (Nat → Int32) × (Nat → zG) × zD × (Nat → Int32) × zM × (Nat → Int64) × (Nat → UInt64) × Nat)) :=
  bnd (rd S xs (a5 + 1)) fun v515 =>
  bnd4 (fw_truncate I ou j v515) fun v519 I516 ou517 j518 =>
  bnd (rd S xs (a5 + 1)) fun v521 =>
  bnd2 (fM_truncate M v521) fun v523 M522 =>
  if (fM_thrown M522) = v519 then
    if v519 = 0 then
      if (ou517 0) = (Int32.toInt64 v523) then
        some (.inl (I516, C, Y, Γ, D, O, M522, ou517, od, j518, (a5 + 6)))
      else
        some (.inr (false, I516, C, Y, Γ, D, O, M522, ou517, od, j518))
    else
      some (.inl (I516, C, Y, Γ, D, O, M522, ou517, od, j518, (a5 + 6)))
  else
    some (.inr (false, I516, C, Y, Γ, D, O, M522, ou517, od, j518))
def fw_law_j448 (S : Nat) (xs : Nat → Int32) (I : zI) (C : zC) (Y : Nat → Int32) (Γ : Nat → zG) (D : zD) (O : Nat → Int32) (M : zM) (ou : Nat → Int64) (od : Nat → UInt64) (j : Nat) (a5 : Int32) : Option ((zI × zC × (Nat → Int32) × (Nat → zG) × zD × (Nat → Int32) × zM × (Nat → Int64) × (Nat → UInt64) × Nat × Int32) ⊕ (Bool × zI × zC × (Nat → Int32) × (Nat → zG) × zD × (Nat → Int32) × zM × (Nat → Int64) × (Nat → UInt64) × Nat)) :=
  bnd6 (fw_readText I Y Γ ou j) fun v530 I525 Y526 Γ527 ou528 j529 =>
  bnd2 (fM_readText M) fun v533 M532 =>
  if (fM_thrown M532) = v530 then
    if v530 = 0 then
      if (ou528 0) = (Int32.toInt64 v533) then
        some (.inl (I525, C, Y526, Γ527, D, O, M532, ou528, od, j529, (a5 + 6)))
      else
        some (.inr (false, I525, C, Y526, Γ527, D, O, M532, ou528, od, j529))
    else
      some (.inl (I525, C, Y526, Γ527, D, O, M532, ou528, od, j529, (a5 + 6)))
  else
    some (.inr (false, I525, C, Y526, Γ527, D, O, M532, ou528, od, j529))
def fw_law_j492 (S : Nat) (xs : Nat → Int32) (I : zI) (C : zC) (Y : Nat → Int32) (Γ : Nat → zG) (D : zD) (O : Nat → Int32) (M : zM) (ou : Nat → Int64) (od : Nat → UInt64) (j : Nat) (a5 : Int32) : Option ((zI × zC × (Nat → Int32) × (Nat → zG) × zD × (Nat → Int32) × zM × (Nat → Int64) × (Nat → UInt64) × Nat × Int32) ⊕ (Bool × zI × zC × (Nat → Int32) × (Nat → zG) × zD × (Nat → Int32) × zM × (Nat → Int64) × (Nat → UInt64) × Nat)) :=
  bnd7 (fw_runScript I C Y Γ ou j) fun v541 I535 C536 Y537 Γ538 ou539 j540 =>
  bnd2 (fM_runScript M) fun v544 M543 =>
  if (fM_thrown M543) = v541 then
    if v541 = 0 then
      if (ou539 0) = (Int32.toInt64 v544) then
        some (.inl (I535, C536, Y537, Γ538, D, O, M543, ou539, od, j540, (a5 + 6)))
      else
        some (.inr (false, I535, C536, Y537, Γ538, D, O, M543, ou539, od, j540))
    else
      some (.inl (I535, C536, Y537, Γ538, D, O, M543, ou539, od, j540, (a5 + 6)))
  else
    some (.inr (false, I535, C536, Y537, Γ538, D, O, M543, ou539, od, j540))
def fw_law_j536 (S : Nat) (xs : Nat → Int32) (I : zI) (C : zC) (Y : Nat → Int32) (Γ : Nat → zG) (D : zD) (O : Nat → Int32) (M : zM) (ou : Nat → Int64) (od : Nat → UInt64) (j : Nat) (a5 : Int32) : Option ((zI × zC × (Nat → Int32) × (Nat → zG) × zD × (Nat → Int32) × zM × (Nat → Int64) × (Nat → UInt64) × Nat × Int32) ⊕ (Bool × zI × zC × (Nat → Int32) × (Nat → zG) × zD × (Nat → Int32) × zM × (Nat → Int64) × (Nat → UInt64) × Nat)) :=
  bnd2 (fM_errorCode M) fun v547 M546 =>
  if (fX_errorCode I) = v547 then
    some (.inl (I, C, Y, Γ, D, O, M546, ou, od, j, (a5 + 6)))
  else
    some (.inr (false, I, C, Y, Γ, D, O, M546, ou, od, j))
def fw_law_j549 (S : Nat) (xs : Nat → Int32) (I : zI) (C : zC) (Y : Nat → Int32) (Γ : Nat → zG) (D : zD) (O : Nat → Int32) (M : zM) (ou : Nat → Int64) (od : Nat → UInt64) (j : Nat) (a5 : Int32) : Option ((zI × zC × (Nat → Int32) × (Nat → zG) × zD × (Nat → Int32) × zM × (Nat → Int64) × (Nat → UInt64) × Nat × Int32) ⊕ (Bool × zI × zC × (Nat → Int32) × (Nat → zG) × zD × (Nat → Int32) × zM × (Nat → Int64) × (Nat → UInt64) × Nat)) :=
  bnd2 (fM_errorOffset M) fun v550 M549 =>
  if (fX_errorOffset I) = v550 then
    some (.inl (I, C, Y, Γ, D, O, M549, ou, od, j, (a5 + 6)))
  else
    some (.inr (false, I, C, Y, Γ, D, O, M549, ou, od, j))
def fw_law_j562 (S : Nat) (xs : Nat → Int32) (I : zI) (C : zC) (Y : Nat → Int32) (Γ : Nat → zG) (D : zD) (O : Nat → Int32) (M : zM) (ou : Nat → Int64) (od : Nat → UInt64) (j : Nat) (a5 : Int32) : Option ((zI × zC × (Nat → Int32) × (Nat → zG) × zD × (Nat → Int32) × zM × (Nat → Int64) × (Nat → UInt64) × Nat × Int32) ⊕ (Bool × zI × zC × (Nat → Int32) × (Nat → zG) × zD × (Nat → Int32) × zM × (Nat → Int64) × (Nat → UInt64) × Nat)) :=
  bnd2 (fM_goreCount M) fun v553 M552 =>
  if (fX_goreCount Γ) = v553 then
    some (.inl (I, C, Y, Γ, D, O, M552, ou, od, j, (a5 + 6)))
  else
    some (.inr (false, I, C, Y, Γ, D, O, M552, ou, od, j))
def fw_law_j575 (S : Nat) (xs : Nat → Int32) (I : zI) (C : zC) (Y : Nat → Int32) (Γ : Nat → zG) (D : zD) (O : Nat → Int32) (M : zM) (ou : Nat → Int64) (od : Nat → UInt64) (j : Nat) (a5 : Int32) : Option ((zI × zC × (Nat → Int32) × (Nat → zG) × zD × (Nat → Int32) × zM × (Nat → Int64) × (Nat → UInt64) × Nat × Int32) ⊕ (Bool × zI × zC × (Nat → Int32) × (Nat → zG) × zD × (Nat → Int32) × zM × (Nat → Int64) × (Nat → UInt64) × Nat)) :=
  bnd (rd S xs (a5 + 1)) fun v555 =>
  bnd3 (fw_widthOf Γ ou j v555) fun v558 ou556 j557 =>
  bnd (rd S xs (a5 + 1)) fun v560 =>
  bnd2 (fM_widthOf M v560) fun v562 M561 =>
  if (fM_thrown M561) = v558 then
    if v558 = 0 then
      if (ou556 0) = (Int32.toInt64 v562) then
        some (.inl (I, C, Y, Γ, D, O, M561, ou556, od, j557, (a5 + 6)))
      else
        some (.inr (false, I, C, Y, Γ, D, O, M561, ou556, od, j557))
    else
      some (.inl (I, C, Y, Γ, D, O, M561, ou556, od, j557, (a5 + 6)))
  else
    some (.inr (false, I, C, Y, Γ, D, O, M561, ou556, od, j557))
def fw_law_j631 (S : Nat) (xs : Nat → Int32) (I : zI) (C : zC) (Y : Nat → Int32) (Γ : Nat → zG) (D : zD) (O : Nat → Int32) (M : zM) (ou : Nat → Int64) (od : Nat → UInt64) (j : Nat) (a5 : Int32) : Option ((zI × zC × (Nat → Int32) × (Nat → zG) × zD × (Nat → Int32) × zM × (Nat → Int64) × (Nat → UInt64) × Nat × Int32) ⊕ (Bool × zI × zC × (Nat → Int32) × (Nat → zG) × zD × (Nat → Int32) × zM × (Nat → Int64) × (Nat → UInt64) × Nat)) :=
  bnd (rd S xs (a5 + 1)) fun v564 =>
  bnd3 (fw_beginOf Γ ou j v564) fun v567 ou565 j566 =>
  bnd (rd S xs (a5 + 1)) fun v569 =>
  bnd2 (fM_beginOf M v569) fun v571 M570 =>
  if (fM_thrown M570) = v567 then
    if v567 = 0 then
      if (ou565 0) = (Int32.toInt64 v571) then
        some (.inl (I, C, Y, Γ, D, O, M570, ou565, od, j566, (a5 + 6)))
      else
        some (.inr (false, I, C, Y, Γ, D, O, M570, ou565, od, j566))
    else
      some (.inl (I, C, Y, Γ, D, O, M570, ou565, od, j566, (a5 + 6)))
  else
    some (.inr (false, I, C, Y, Γ, D, O, M570, ou565, od, j566))
def fw_law_j687 (S : Nat) (xs : Nat → Int32) (I : zI) (C : zC) (Y : Nat → Int32) (Γ : Nat → zG) (D : zD) (O : Nat → Int32) (M : zM) (ou : Nat → Int64) (od : Nat → UInt64) (j : Nat) (a5 : Int32) : Option ((zI × zC × (Nat → Int32) × (Nat → zG) × zD × (Nat → Int32) × zM × (Nat → Int64) × (Nat → UInt64) × Nat × Int32) ⊕ (Bool × zI × zC × (Nat → Int32) × (Nat → zG) × zD × (Nat → Int32) × zM × (Nat → Int64) × (Nat → UInt64) × Nat)) :=
  bnd (rd S xs (a5 + 1)) fun v573 =>
  bnd3 (fw_goreAt Γ ou j v573) fun v576 ou574 j575 =>
  bnd (rd S xs (a5 + 1)) fun v578 =>
  bnd2 (fM_goreAt M v578) fun v580 M579 =>
  if (fM_thrown M579) = v576 then
    if v576 = 0 then
      if (ou574 0) = (Int32.toInt64 v580) then
        some (.inl (I, C, Y, Γ, D, O, M579, ou574, od, j575, (a5 + 6)))
      else
        some (.inr (false, I, C, Y, Γ, D, O, M579, ou574, od, j575))
    else
      some (.inl (I, C, Y, Γ, D, O, M579, ou574, od, j575, (a5 + 6)))
  else
    some (.inr (false, I, C, Y, Γ, D, O, M579, ou574, od, j575))
def fw_law_j743 (S : Nat) (xs : Nat → Int32) (I : zI) (C : zC) (Y : Nat → Int32) (Γ : Nat → zG) (D : zD) (O : Nat → Int32) (M : zM) (ou : Nat → Int64) (od : Nat → UInt64) (j : Nat) (a5 : Int32) : Option ((zI × zC × (Nat → Int32) × (Nat → zG) × zD × (Nat → Int32) × zM × (Nat → Int64) × (Nat → UInt64) × Nat × Int32) ⊕ (Bool × zI × zC × (Nat → Int32) × (Nat → zG) × zD × (Nat → Int32) × zM × (Nat → Int64) × (Nat → UInt64) × Nat)) :=
  bnd (rd S xs (a5 + 1)) fun v582 =>
  bnd3 (fw_stitchesOf Γ ou j v582) fun v585 ou583 j584 =>
  bnd (rd S xs (a5 + 1)) fun v587 =>
  bnd2 (fM_stitchesOf M v587) fun v589 M588 =>
  if (fM_thrown M588) = v585 then
    if v585 = 0 then
      if (ou583 0) = (Int32.toInt64 v589) then
        some (.inl (I, C, Y, Γ, D, O, M588, ou583, od, j584, (a5 + 6)))
      else
        some (.inr (false, I, C, Y, Γ, D, O, M588, ou583, od, j584))
    else
      some (.inl (I, C, Y, Γ, D, O, M588, ou583, od, j584, (a5 + 6)))
  else
    some (.inr (false, I, C, Y, Γ, D, O, M588, ou583, od, j584))
def fw_law_j799 (S : Nat) (xs : Nat → Int32) (I : zI) (C : zC) (Y : Nat → Int32) (Γ : Nat → zG) (D : zD) (O : Nat → Int32) (M : zM) (ou : Nat → Int64) (od : Nat → UInt64) (j : Nat) (a5 : Int32) : Option ((zI × zC × (Nat → Int32) × (Nat → zG) × zD × (Nat → Int32) × zM × (Nat → Int64) × (Nat → UInt64) × Nat × Int32) ⊕ (Bool × zI × zC × (Nat → Int32) × (Nat → zG) × zD × (Nat → Int32) × zM × (Nat → Int64) × (Nat → UInt64) × Nat)) :=
  bnd (rd S xs (a5 + 1)) fun v591 =>
  bnd3 (fw_strainOf Γ ou j v591) fun v594 ou592 j593 =>
  bnd (rd S xs (a5 + 1)) fun v596 =>
  bnd2 (fM_strainOf M v596) fun v598 M597 =>
  if (fM_thrown M597) = v594 then
    if v594 = 0 then
      if (ou592 0) = (Int32.toInt64 v598) then
        some (.inl (I, C, Y, Γ, D, O, M597, ou592, od, j593, (a5 + 6)))
      else
        some (.inr (false, I, C, Y, Γ, D, O, M597, ou592, od, j593))
    else
      some (.inl (I, C, Y, Γ, D, O, M597, ou592, od, j593, (a5 + 6)))
  else
    some (.inr (false, I, C, Y, Γ, D, O, M597, ou592, od, j593))
def fw_law_j855 (S : Nat) (xs : Nat → Int32) (I : zI) (C : zC) (Y : Nat → Int32) (Γ : Nat → zG) (D : zD) (O : Nat → Int32) (M : zM) (ou : Nat → Int64) (od : Nat → UInt64) (j : Nat) (a5 : Int32) : Option ((zI × zC × (Nat → Int32) × (Nat → zG) × zD × (Nat → Int32) × zM × (Nat → Int64) × (Nat → UInt64) × Nat × Int32) ⊕ (Bool × zI × zC × (Nat → Int32) × (Nat → zG) × zD × (Nat → Int32) × zM × (Nat → Int64) × (Nat → UInt64) × Nat)) :=
  bnd (fX_tornSeams Γ) fun v600 =>
  bnd2 (fM_tornSeams M) fun v603 M602 =>
  if v600 = v603 then
    some (.inl (I, C, Y, Γ, D, O, M602, ou, od, j, (a5 + 6)))
  else
    some (.inr (false, I, C, Y, Γ, D, O, M602, ou, od, j))
def fw_law_j868 (S : Nat) (xs : Nat → Int32) (I : zI) (C : zC) (Y : Nat → Int32) (Γ : Nat → zG) (D : zD) (O : Nat → Int32) (M : zM) (ou : Nat → Int64) (od : Nat → UInt64) (j : Nat) (a5 : Int32) : Option ((zI × zC × (Nat → Int32) × (Nat → zG) × zD × (Nat → Int32) × zM × (Nat → Int64) × (Nat → UInt64) × Nat × Int32) ⊕ (Bool × zI × zC × (Nat → Int32) × (Nat → zG) × zD × (Nat → Int32) × zM × (Nat → Int64) × (Nat → UInt64) × Nat)) :=
  bnd2 (fM_thread M) fun v606 M605 =>
  if (fX_thread Γ) = v606 then
    some (.inl (I, C, Y, Γ, D, O, M605, ou, od, j, (a5 + 6)))
  else
    some (.inr (false, I, C, Y, Γ, D, O, M605, ou, od, j))
def fw_law_j881 (S : Nat) (xs : Nat → Int32) (I : zI) (C : zC) (Y : Nat → Int32) (Γ : Nat → zG) (D : zD) (O : Nat → Int32) (M : zM) (ou : Nat → Int64) (od : Nat → UInt64) (j : Nat) (a5 : Int32) : Option ((zI × zC × (Nat → Int32) × (Nat → zG) × zD × (Nat → Int32) × zM × (Nat → Int64) × (Nat → UInt64) × Nat × Int32) ⊕ (Bool × zI × zC × (Nat → Int32) × (Nat → zG) × zD × (Nat → Int32) × zM × (Nat → Int64) × (Nat → UInt64) × Nat)) :=
  bnd (rd S xs (a5 + 1)) fun v608 =>
  bnd3 (fw_hemAt Γ ou j v608) fun v611 ou609 j610 =>
  bnd (rd S xs (a5 + 1)) fun v613 =>
  bnd2 (fM_hemAt M v613) fun v615 M614 =>
  if (fM_thrown M614) = v611 then
    if v611 = 0 then
      if (ou609 0) = (Int32.toInt64 v615) then
        some (.inl (I, C, Y, Γ, D, O, M614, ou609, od, j610, (a5 + 6)))
      else
        some (.inr (false, I, C, Y, Γ, D, O, M614, ou609, od, j610))
    else
      some (.inl (I, C, Y, Γ, D, O, M614, ou609, od, j610, (a5 + 6)))
  else
    some (.inr (false, I, C, Y, Γ, D, O, M614, ou609, od, j610))
def fw_law_j937 (S : Nat) (xs : Nat → Int32) (I : zI) (C : zC) (Y : Nat → Int32) (Γ : Nat → zG) (D : zD) (O : Nat → Int32) (M : zM) (ou : Nat → Int64) (od : Nat → UInt64) (j : Nat) (a5 : Int32) : Option ((zI × zC × (Nat → Int32) × (Nat → zG) × zD × (Nat → Int32) × zM × (Nat → Int64) × (Nat → UInt64) × Nat × Int32) ⊕ (Bool × zI × zC × (Nat → Int32) × (Nat → zG) × zD × (Nat → Int32) × zM × (Nat → Int64) × (Nat → UInt64) × Nat)) :=
  bnd (rd S xs (a5 + 1)) fun v617 =>
  bnd (rd S xs (a5 + 2)) fun v618 =>
  bnd3 (fw_longitude Γ ou j v617 v618) fun v621 ou619 j620 =>
  bnd (rd S xs (a5 + 1)) fun v623 =>
  bnd (rd S xs (a5 + 2)) fun v624 =>
  bnd2 (fM_longitude M v623 v624) fun v626 M625 =>
  if (fM_thrown M625) = v621 then
    if v621 = 0 then
      if (ou619 0) = (Int32.toInt64 v626) then
        some (.inl (I, C, Y, Γ, D, O, M625, ou619, od, j620, (a5 + 6)))
      else
        some (.inr (false, I, C, Y, Γ, D, O, M625, ou619, od, j620))
    else
      some (.inl (I, C, Y, Γ, D, O, M625, ou619, od, j620, (a5 + 6)))
  else
    some (.inr (false, I, C, Y, Γ, D, O, M625, ou619, od, j620))
def fw_law_j1005 (S : Nat) (xs : Nat → Int32) (I : zI) (C : zC) (Y : Nat → Int32) (Γ : Nat → zG) (D : zD) (O : Nat → Int32) (M : zM) (ou : Nat → Int64) (od : Nat → UInt64) (j : Nat) (a5 : Int32) : Option ((zI × zC × (Nat → Int32) × (Nat → zG) × zD × (Nat → Int32) × zM × (Nat → Int64) × (Nat → UInt64) × Nat × Int32) ⊕ (Bool × zI × zC × (Nat → Int32) × (Nat → zG) × zD × (Nat → Int32) × zM × (Nat → Int64) × (Nat → UInt64) × Nat)) :=
  bnd (rd S xs (a5 + 1)) fun v628 =>
  bnd (rd S xs (a5 + 2)) fun v629 =>
  bnd3 (fw_dayAt Γ ou j v628 v629) fun v632 ou630 j631 =>
  bnd (rd S xs (a5 + 1)) fun v634 =>
  bnd (rd S xs (a5 + 2)) fun v635 =>
  bnd2 (fM_dayAt M v634 v635) fun v637 M636 =>
  if (fM_thrown M636) = v632 then
    if v632 = 0 then
      if (ou630 0) = (Int32.toInt64 v637) then
        some (.inl (I, C, Y, Γ, D, O, M636, ou630, od, j631, (a5 + 6)))
      else
        some (.inr (false, I, C, Y, Γ, D, O, M636, ou630, od, j631))
    else
      some (.inl (I, C, Y, Γ, D, O, M636, ou630, od, j631, (a5 + 6)))
  else
    some (.inr (false, I, C, Y, Γ, D, O, M636, ou630, od, j631))
def fw_law_j1073 (S : Nat) (xs : Nat → Int32) (I : zI) (C : zC) (Y : Nat → Int32) (Γ : Nat → zG) (D : zD) (O : Nat → Int32) (M : zM) (ou : Nat → Int64) (od : Nat → UInt64) (j : Nat) (a5 : Int32) : Option ((zI × zC × (Nat → Int32) × (Nat → zG) × zD × (Nat → Int32) × zM × (Nat → Int64) × (Nat → UInt64) × Nat × Int32) ⊕ (Bool × zI × zC × (Nat → Int32) × (Nat → zG) × zD × (Nat → Int32) × zM × (Nat → Int64) × (Nat → UInt64) × Nat)) :=
  bnd (rd S xs (a5 + 1)) fun v639 =>
  bnd (rd S xs (a5 + 2)) fun v640 =>
  bnd3 (fw_hourAt Γ ou j v639 v640) fun v643 ou641 j642 =>
  bnd (rd S xs (a5 + 1)) fun v645 =>
  bnd (rd S xs (a5 + 2)) fun v646 =>
  bnd2 (fM_hourAt M v645 v646) fun v648 M647 =>
  if (fM_thrown M647) = v643 then
    if v643 = 0 then
      if (ou641 0) = (Int32.toInt64 v648) then
        some (.inl (I, C, Y, Γ, D, O, M647, ou641, od, j642, (a5 + 6)))
      else
        some (.inr (false, I, C, Y, Γ, D, O, M647, ou641, od, j642))
    else
      some (.inl (I, C, Y, Γ, D, O, M647, ou641, od, j642, (a5 + 6)))
  else
    some (.inr (false, I, C, Y, Γ, D, O, M647, ou641, od, j642))
def fw_law_j1141 (S : Nat) (xs : Nat → Int32) (I : zI) (C : zC) (Y : Nat → Int32) (Γ : Nat → zG) (D : zD) (O : Nat → Int32) (M : zM) (ou : Nat → Int64) (od : Nat → UInt64) (j : Nat) (a5 : Int32) : Option ((zI × zC × (Nat → Int32) × (Nat → zG) × zD × (Nat → Int32) × zM × (Nat → Int64) × (Nat → UInt64) × Nat × Int32) ⊕ (Bool × zI × zC × (Nat → Int32) × (Nat → zG) × zD × (Nat → Int32) × zM × (Nat → Int64) × (Nat → UInt64) × Nat)) :=
  bnd2 (fM_clock M) fun v651 M650 =>
  if (fX_clock Γ) = v651 then
    some (.inl (I, C, Y, Γ, D, O, M650, ou, od, j, (a5 + 6)))
  else
    some (.inr (false, I, C, Y, Γ, D, O, M650, ou, od, j))
def fw_law_j1154 (S : Nat) (xs : Nat → Int32) (I : zI) (C : zC) (Y : Nat → Int32) (Γ : Nat → zG) (D : zD) (O : Nat → Int32) (M : zM) (ou : Nat → Int64) (od : Nat → UInt64) (j : Nat) (a5 : Int32) : Option ((zI × zC × (Nat → Int32) × (Nat → zG) × zD × (Nat → Int32) × zM × (Nat → Int64) × (Nat → UInt64) × Nat × Int32) ⊕ (Bool × zI × zC × (Nat → Int32) × (Nat → zG) × zD × (Nat → Int32) × zM × (Nat → Int64) × (Nat → UInt64) × Nat)) :=
  bnd2 (fM_spotCount M) fun v654 M653 =>
  if (fX_spotCount Γ) = v654 then
    some (.inl (I, C, Y, Γ, D, O, M653, ou, od, j, (a5 + 6)))
  else
    some (.inr (false, I, C, Y, Γ, D, O, M653, ou, od, j))
def fw_law_j1167 (S : Nat) (xs : Nat → Int32) (I : zI) (C : zC) (Y : Nat → Int32) (Γ : Nat → zG) (D : zD) (O : Nat → Int32) (M : zM) (ou : Nat → Int64) (od : Nat → UInt64) (j : Nat) (a5 : Int32) : Option ((zI × zC × (Nat → Int32) × (Nat → zG) × zD × (Nat → Int32) × zM × (Nat → Int64) × (Nat → UInt64) × Nat × Int32) ⊕ (Bool × zI × zC × (Nat → Int32) × (Nat → zG) × zD × (Nat → Int32) × zM × (Nat → Int64) × (Nat → UInt64) × Nat)) :=
  bnd (rd S xs (a5 + 1)) fun v656 =>
  bnd (rd S xs (a5 + 2)) fun v657 =>
  bnd3 (fw_nameByte Γ ou j v656 v657) fun v660 ou658 j659 =>
  bnd (rd S xs (a5 + 1)) fun v662 =>
  bnd (rd S xs (a5 + 2)) fun v663 =>
  bnd2 (fM_nameByte M v662 v663) fun v665 M664 =>
  if (fM_thrown M664) = v660 then
    if v660 = 0 then
      if (ou658 0) = (Int32.toInt64 v665) then
        some (.inl (I, C, Y, Γ, D, O, M664, ou658, od, j659, (a5 + 6)))
      else
        some (.inr (false, I, C, Y, Γ, D, O, M664, ou658, od, j659))
    else
      some (.inl (I, C, Y, Γ, D, O, M664, ou658, od, j659, (a5 + 6)))
  else
    some (.inr (false, I, C, Y, Γ, D, O, M664, ou658, od, j659))
def fw_law_j1235 (S : Nat) (xs : Nat → Int32) (I : zI) (C : zC) (Y : Nat → Int32) (Γ : Nat → zG) (D : zD) (O : Nat → Int32) (M : zM) (ou : Nat → Int64) (od : Nat → UInt64) (j : Nat) (a5 : Int32) : Option ((zI × zC × (Nat → Int32) × (Nat → zG) × zD × (Nat → Int32) × zM × (Nat → Int64) × (Nat → UInt64) × Nat × Int32) ⊕ (Bool × zI × zC × (Nat → Int32) × (Nat → zG) × zD × (Nat → Int32) × zM × (Nat → Int64) × (Nat → UInt64) × Nat)) :=
  bnd (fX_findSpot I Γ) fun v667 =>
  bnd2 (fM_findSpot M) fun v670 M669 =>
  if v667 = v670 then
    some (.inl (I, C, Y, Γ, D, O, M669, ou, od, j, (a5 + 6)))
  else
    some (.inr (false, I, C, Y, Γ, D, O, M669, ou, od, j))
def fw_law_j1302 (S : Nat) (xs : Nat → Int32) (I : zI) (C : zC) (Y : Nat → Int32) (Γ : Nat → zG) (D : zD) (O : Nat → Int32) (M : zM) (ou : Nat → Int64) (od : Nat → UInt64) (j : Nat) (a5 : Int32) (a0t : Int64) (a1t : Int64) : Option ((zI × zC × (Nat → Int32) × (Nat → zG) × zD × (Nat → Int32) × zM × (Nat → Int64) × (Nat → UInt64) × Nat × Int32) ⊕ (Bool × zI × zC × (Nat → Int32) × (Nat → zG) × zD × (Nat → Int32) × zM × (Nat → Int64) × (Nat → UInt64) × Nat)) :=
  if a1t = a0t then
    some (.inl (I, C, Y, Γ, D, O, M, ou, od, j, (a5 + 6)))
  else
    some (.inr (false, I, C, Y, Γ, D, O, M, ou, od, j))
def fw_law_j1248 (S : Nat) (xs : Nat → Int32) (I : zI) (C : zC) (Y : Nat → Int32) (Γ : Nat → zG) (D : zD) (O : Nat → Int32) (M : zM) (ou : Nat → Int64) (od : Nat → UInt64) (j : Nat) (a5 : Int32) : Option ((zI × zC × (Nat → Int32) × (Nat → zG) × zD × (Nat → Int32) × zM × (Nat → Int64) × (Nat → UInt64) × Nat × Int32) ⊕ (Bool × zI × zC × (Nat → Int32) × (Nat → zG) × zD × (Nat → Int32) × zM × (Nat → Int64) × (Nat → UInt64) × Nat)) :=
  bnd (rd S xs (a5 + 1)) fun v672 =>
  bnd3 (fw_isTraveller Γ ou j v672) fun v675 ou673 j674 =>
  bnd (rd S xs (a5 + 1)) fun v677 =>
  bnd2 (fM_isTraveller M v677) fun v679 M678 =>
  if (fM_thrown M678) = v675 then
    if v675 = 0 then
      if v679 = true then
        fw_law_j1302 S xs I C Y Γ D O M678 ou673 od j674 a5 1 (ou673 0)
      else
        fw_law_j1302 S xs I C Y Γ D O M678 ou673 od j674 a5 0 (ou673 0)
    else
      some (.inl (I, C, Y, Γ, D, O, M678, ou673, od, j674, (a5 + 6)))
  else
    some (.inr (false, I, C, Y, Γ, D, O, M678, ou673, od, j674))
def fw_law_j1311 (S : Nat) (xs : Nat → Int32) (I : zI) (C : zC) (Y : Nat → Int32) (Γ : Nat → zG) (D : zD) (O : Nat → Int32) (M : zM) (ou : Nat → Int64) (od : Nat → UInt64) (j : Nat) (a5 : Int32) : Option ((zI × zC × (Nat → Int32) × (Nat → zG) × zD × (Nat → Int32) × zM × (Nat → Int64) × (Nat → UInt64) × Nat × Int32) ⊕ (Bool × zI × zC × (Nat → Int32) × (Nat → zG) × zD × (Nat → Int32) × zM × (Nat → Int64) × (Nat → UInt64) × Nat)) :=
  bnd (rd S xs (a5 + 1)) fun v681 =>
  bnd3 (fw_bandOf Γ ou j v681) fun v684 ou682 j683 =>
  bnd (rd S xs (a5 + 1)) fun v686 =>
  bnd2 (fM_bandOf M v686) fun v688 M687 =>
  if (fM_thrown M687) = v684 then
    if v684 = 0 then
      if (ou682 0) = (Int32.toInt64 v688) then
        some (.inl (I, C, Y, Γ, D, O, M687, ou682, od, j683, (a5 + 6)))
      else
        some (.inr (false, I, C, Y, Γ, D, O, M687, ou682, od, j683))
    else
      some (.inl (I, C, Y, Γ, D, O, M687, ou682, od, j683, (a5 + 6)))
  else
    some (.inr (false, I, C, Y, Γ, D, O, M687, ou682, od, j683))
def fw_law_j1367 (S : Nat) (xs : Nat → Int32) (I : zI) (C : zC) (Y : Nat → Int32) (Γ : Nat → zG) (D : zD) (O : Nat → Int32) (M : zM) (ou : Nat → Int64) (od : Nat → UInt64) (j : Nat) (a5 : Int32) : Option ((zI × zC × (Nat → Int32) × (Nat → zG) × zD × (Nat → Int32) × zM × (Nat → Int64) × (Nat → UInt64) × Nat × Int32) ⊕ (Bool × zI × zC × (Nat → Int32) × (Nat → zG) × zD × (Nat → Int32) × zM × (Nat → Int64) × (Nat → UInt64) × Nat)) :=
  bnd (rd S xs (a5 + 1)) fun v690 =>
  bnd3 (fw_meridianOf Γ ou j v690) fun v693 ou691 j692 =>
  bnd (rd S xs (a5 + 1)) fun v695 =>
  bnd2 (fM_meridianOf M v695) fun v697 M696 =>
  if (fM_thrown M696) = v693 then
    if v693 = 0 then
      if (ou691 0) = (Int32.toInt64 v697) then
        some (.inl (I, C, Y, Γ, D, O, M696, ou691, od, j692, (a5 + 6)))
      else
        some (.inr (false, I, C, Y, Γ, D, O, M696, ou691, od, j692))
    else
      some (.inl (I, C, Y, Γ, D, O, M696, ou691, od, j692, (a5 + 6)))
  else
    some (.inr (false, I, C, Y, Γ, D, O, M696, ou691, od, j692))
def fw_law_j1423 (S : Nat) (xs : Nat → Int32) (I : zI) (C : zC) (Y : Nat → Int32) (Γ : Nat → zG) (D : zD) (O : Nat → Int32) (M : zM) (ou : Nat → Int64) (od : Nat → UInt64) (j : Nat) (a5 : Int32) : Option ((zI × zC × (Nat → Int32) × (Nat → zG) × zD × (Nat → Int32) × zM × (Nat → Int64) × (Nat → UInt64) × Nat × Int32) ⊕ (Bool × zI × zC × (Nat → Int32) × (Nat → zG) × zD × (Nat → Int32) × zM × (Nat → Int64) × (Nat → UInt64) × Nat)) :=
  bnd (rd S xs (a5 + 1)) fun v699 =>
  bnd3 (fw_dayOf Γ ou j v699) fun v702 ou700 j701 =>
  bnd (rd S xs (a5 + 1)) fun v704 =>
  bnd2 (fM_dayOf M v704) fun v706 M705 =>
  if (fM_thrown M705) = v702 then
    if v702 = 0 then
      if (ou700 0) = (Int32.toInt64 v706) then
        some (.inl (I, C, Y, Γ, D, O, M705, ou700, od, j701, (a5 + 6)))
      else
        some (.inr (false, I, C, Y, Γ, D, O, M705, ou700, od, j701))
    else
      some (.inl (I, C, Y, Γ, D, O, M705, ou700, od, j701, (a5 + 6)))
  else
    some (.inr (false, I, C, Y, Γ, D, O, M705, ou700, od, j701))
def fw_law_j1479 (S : Nat) (xs : Nat → Int32) (I : zI) (C : zC) (Y : Nat → Int32) (Γ : Nat → zG) (D : zD) (O : Nat → Int32) (M : zM) (ou : Nat → Int64) (od : Nat → UInt64) (j : Nat) (a5 : Int32) : Option ((zI × zC × (Nat → Int32) × (Nat → zG) × zD × (Nat → Int32) × zM × (Nat → Int64) × (Nat → UInt64) × Nat × Int32) ⊕ (Bool × zI × zC × (Nat → Int32) × (Nat → zG) × zD × (Nat → Int32) × zM × (Nat → Int64) × (Nat → UInt64) × Nat)) :=
  bnd (rd S xs (a5 + 1)) fun v708 =>
  bnd3 (fw_degreesLeft Γ ou j v708) fun v711 ou709 j710 =>
  bnd (rd S xs (a5 + 1)) fun v713 =>
  bnd2 (fM_degreesLeft M v713) fun v715 M714 =>
  if (fM_thrown M714) = v711 then
    if v711 = 0 then
      if (ou709 0) = (Int32.toInt64 v715) then
        some (.inl (I, C, Y, Γ, D, O, M714, ou709, od, j710, (a5 + 6)))
      else
        some (.inr (false, I, C, Y, Γ, D, O, M714, ou709, od, j710))
    else
      some (.inl (I, C, Y, Γ, D, O, M714, ou709, od, j710, (a5 + 6)))
  else
    some (.inr (false, I, C, Y, Γ, D, O, M714, ou709, od, j710))
def fw_law_j1535 (S : Nat) (xs : Nat → Int32) (I : zI) (C : zC) (Y : Nat → Int32) (Γ : Nat → zG) (D : zD) (O : Nat → Int32) (M : zM) (ou : Nat → Int64) (od : Nat → UInt64) (j : Nat) (a5 : Int32) : Option ((zI × zC × (Nat → Int32) × (Nat → zG) × zD × (Nat → Int32) × zM × (Nat → Int64) × (Nat → UInt64) × Nat × Int32) ⊕ (Bool × zI × zC × (Nat → Int32) × (Nat → zG) × zD × (Nat → Int32) × zM × (Nat → Int64) × (Nat → UInt64) × Nat)) :=
  bnd (rd S xs (a5 + 1)) fun v717 =>
  bnd3 (fw_crossingsOf Γ ou j v717) fun v720 ou718 j719 =>
  bnd (rd S xs (a5 + 1)) fun v722 =>
  bnd2 (fM_crossingsOf M v722) fun v724 M723 =>
  if (fM_thrown M723) = v720 then
    if v720 = 0 then
      if (ou718 0) = (Int32.toInt64 v724) then
        some (.inl (I, C, Y, Γ, D, O, M723, ou718, od, j719, (a5 + 6)))
      else
        some (.inr (false, I, C, Y, Γ, D, O, M723, ou718, od, j719))
    else
      some (.inl (I, C, Y, Γ, D, O, M723, ou718, od, j719, (a5 + 6)))
  else
    some (.inr (false, I, C, Y, Γ, D, O, M723, ou718, od, j719))
def fw_law_j1591 (S : Nat) (xs : Nat → Int32) (I : zI) (C : zC) (Y : Nat → Int32) (Γ : Nat → zG) (D : zD) (O : Nat → Int32) (M : zM) (ou : Nat → Int64) (od : Nat → UInt64) (j : Nat) (a5 : Int32) : Option ((zI × zC × (Nat → Int32) × (Nat → zG) × zD × (Nat → Int32) × zM × (Nat → Int64) × (Nat → UInt64) × Nat × Int32) ⊕ (Bool × zI × zC × (Nat → Int32) × (Nat → zG) × zD × (Nat → Int32) × zM × (Nat → Int64) × (Nat → UInt64) × Nat)) :=
  bnd (fX_nextMidnight Γ) fun v726 =>
  bnd2 (fM_nextMidnight M) fun v729 M728 =>
  if v726 = v729 then
    some (.inl (I, C, Y, Γ, D, O, M728, ou, od, j, (a5 + 6)))
  else
    some (.inr (false, I, C, Y, Γ, D, O, M728, ou, od, j))
def fw_law_j1604 (S : Nat) (xs : Nat → Int32) (I : zI) (C : zC) (Y : Nat → Int32) (Γ : Nat → zG) (D : zD) (O : Nat → Int32) (M : zM) (ou : Nat → Int64) (od : Nat → UInt64) (j : Nat) (a5 : Int32) : Option ((zI × zC × (Nat → Int32) × (Nat → zG) × zD × (Nat → Int32) × zM × (Nat → Int64) × (Nat → UInt64) × Nat × Int32) ⊕ (Bool × zI × zC × (Nat → Int32) × (Nat → zG) × zD × (Nat → Int32) × zM × (Nat → Int64) × (Nat → UInt64) × Nat)) :=
  bnd2 (fM_labelCount M) fun v732 M731 =>
  if (fX_labelCount Γ) = v732 then
    some (.inl (I, C, Y, Γ, D, O, M731, ou, od, j, (a5 + 6)))
  else
    some (.inr (false, I, C, Y, Γ, D, O, M731, ou, od, j))
def fw_law_j1617 (S : Nat) (xs : Nat → Int32) (I : zI) (C : zC) (Y : Nat → Int32) (Γ : Nat → zG) (D : zD) (O : Nat → Int32) (M : zM) (ou : Nat → Int64) (od : Nat → UInt64) (j : Nat) (a5 : Int32) : Option ((zI × zC × (Nat → Int32) × (Nat → zG) × zD × (Nat → Int32) × zM × (Nat → Int64) × (Nat → UInt64) × Nat × Int32) ⊕ (Bool × zI × zC × (Nat → Int32) × (Nat → zG) × zD × (Nat → Int32) × zM × (Nat → Int64) × (Nat → UInt64) × Nat)) :=
  bnd (rd S xs (a5 + 1)) fun v734 =>
  bnd3 (fw_labelBand Γ ou j v734) fun v737 ou735 j736 =>
  bnd (rd S xs (a5 + 1)) fun v739 =>
  bnd2 (fM_labelBand M v739) fun v741 M740 =>
  if (fM_thrown M740) = v737 then
    if v737 = 0 then
      if (ou735 0) = (Int32.toInt64 v741) then
        some (.inl (I, C, Y, Γ, D, O, M740, ou735, od, j736, (a5 + 6)))
      else
        some (.inr (false, I, C, Y, Γ, D, O, M740, ou735, od, j736))
    else
      some (.inl (I, C, Y, Γ, D, O, M740, ou735, od, j736, (a5 + 6)))
  else
    some (.inr (false, I, C, Y, Γ, D, O, M740, ou735, od, j736))
def fw_law_j1673 (S : Nat) (xs : Nat → Int32) (I : zI) (C : zC) (Y : Nat → Int32) (Γ : Nat → zG) (D : zD) (O : Nat → Int32) (M : zM) (ou : Nat → Int64) (od : Nat → UInt64) (j : Nat) (a5 : Int32) : Option ((zI × zC × (Nat → Int32) × (Nat → zG) × zD × (Nat → Int32) × zM × (Nat → Int64) × (Nat → UInt64) × Nat × Int32) ⊕ (Bool × zI × zC × (Nat → Int32) × (Nat → zG) × zD × (Nat → Int32) × zM × (Nat → Int64) × (Nat → UInt64) × Nat)) :=
  bnd (rd S xs (a5 + 1)) fun v743 =>
  bnd3 (fw_labelFirst Γ ou j v743) fun v746 ou744 j745 =>
  bnd (rd S xs (a5 + 1)) fun v748 =>
  bnd2 (fM_labelFirst M v748) fun v750 M749 =>
  if (fM_thrown M749) = v746 then
    if v746 = 0 then
      if (ou744 0) = (Int32.toInt64 v750) then
        some (.inl (I, C, Y, Γ, D, O, M749, ou744, od, j745, (a5 + 6)))
      else
        some (.inr (false, I, C, Y, Γ, D, O, M749, ou744, od, j745))
    else
      some (.inl (I, C, Y, Γ, D, O, M749, ou744, od, j745, (a5 + 6)))
  else
    some (.inr (false, I, C, Y, Γ, D, O, M749, ou744, od, j745))
def fw_law_j1729 (S : Nat) (xs : Nat → Int32) (I : zI) (C : zC) (Y : Nat → Int32) (Γ : Nat → zG) (D : zD) (O : Nat → Int32) (M : zM) (ou : Nat → Int64) (od : Nat → UInt64) (j : Nat) (a5 : Int32) : Option ((zI × zC × (Nat → Int32) × (Nat → zG) × zD × (Nat → Int32) × zM × (Nat → Int64) × (Nat → UInt64) × Nat × Int32) ⊕ (Bool × zI × zC × (Nat → Int32) × (Nat → zG) × zD × (Nat → Int32) × zM × (Nat → Int64) × (Nat → UInt64) × Nat)) :=
  bnd (rd S xs (a5 + 1)) fun v752 =>
  bnd3 (fw_labelLast Γ ou j v752) fun v755 ou753 j754 =>
  bnd (rd S xs (a5 + 1)) fun v757 =>
  bnd2 (fM_labelLast M v757) fun v759 M758 =>
  if (fM_thrown M758) = v755 then
    if v755 = 0 then
      if (ou753 0) = (Int32.toInt64 v759) then
        some (.inl (I, C, Y, Γ, D, O, M758, ou753, od, j754, (a5 + 6)))
      else
        some (.inr (false, I, C, Y, Γ, D, O, M758, ou753, od, j754))
    else
      some (.inl (I, C, Y, Γ, D, O, M758, ou753, od, j754, (a5 + 6)))
  else
    some (.inr (false, I, C, Y, Γ, D, O, M758, ou753, od, j754))
def fw_law_j1839 (S : Nat) (xs : Nat → Int32) (I : zI) (C : zC) (Y : Nat → Int32) (Γ : Nat → zG) (D : zD) (O : Nat → Int32) (M : zM) (ou : Nat → Int64) (od : Nat → UInt64) (j : Nat) (a5 : Int32) (a0t : Int64) (a1t : Int64) : Option ((zI × zC × (Nat → Int32) × (Nat → zG) × zD × (Nat → Int32) × zM × (Nat → Int64) × (Nat → UInt64) × Nat × Int32) ⊕ (Bool × zI × zC × (Nat → Int32) × (Nat → zG) × zD × (Nat → Int32) × zM × (Nat → Int64) × (Nat → UInt64) × Nat)) :=
  if a1t = a0t then
    some (.inl (I, C, Y, Γ, D, O, M, ou, od, j, (a5 + 6)))
  else
    some (.inr (false, I, C, Y, Γ, D, O, M, ou, od, j))
def fw_law_j1785 (S : Nat) (xs : Nat → Int32) (I : zI) (C : zC) (Y : Nat → Int32) (Γ : Nat → zG) (D : zD) (O : Nat → Int32) (M : zM) (ou : Nat → Int64) (od : Nat → UInt64) (j : Nat) (a5 : Int32) : Option ((zI × zC × (Nat → Int32) × (Nat → zG) × zD × (Nat → Int32) × zM × (Nat → Int64) × (Nat → UInt64) × Nat × Int32) ⊕ (Bool × zI × zC × (Nat → Int32) × (Nat → zG) × zD × (Nat → Int32) × zM × (Nat → Int64) × (Nat → UInt64) × Nat)) :=
  bnd (rd S xs (a5 + 1)) fun v761 =>
  bnd3 (fw_isLabelTorn Γ ou j v761) fun v764 ou762 j763 =>
  bnd (rd S xs (a5 + 1)) fun v766 =>
  bnd2 (fM_isLabelTorn M v766) fun v768 M767 =>
  if (fM_thrown M767) = v764 then
    if v764 = 0 then
      if v768 = true then
        fw_law_j1839 S xs I C Y Γ D O M767 ou762 od j763 a5 1 (ou762 0)
      else
        fw_law_j1839 S xs I C Y Γ D O M767 ou762 od j763 a5 0 (ou762 0)
    else
      some (.inl (I, C, Y, Γ, D, O, M767, ou762, od, j763, (a5 + 6)))
  else
    some (.inr (false, I, C, Y, Γ, D, O, M767, ou762, od, j763))
def fw_law_j1848 (S : Nat) (xs : Nat → Int32) (I : zI) (C : zC) (Y : Nat → Int32) (Γ : Nat → zG) (D : zD) (O : Nat → Int32) (M : zM) (ou : Nat → Int64) (od : Nat → UInt64) (j : Nat) (a5 : Int32) : Option ((zI × zC × (Nat → Int32) × (Nat → zG) × zD × (Nat → Int32) × zM × (Nat → Int64) × (Nat → UInt64) × Nat × Int32) ⊕ (Bool × zI × zC × (Nat → Int32) × (Nat → zG) × zD × (Nat → Int32) × zM × (Nat → Int64) × (Nat → UInt64) × Nat)) :=
  bnd (rd S xs (a5 + 1)) fun v770 =>
  bnd (rd S xs (a5 + 2)) fun v771 =>
  bnd3 (fw_labelAt Γ ou j v770 v771) fun v774 ou772 j773 =>
  bnd (rd S xs (a5 + 1)) fun v776 =>
  bnd (rd S xs (a5 + 2)) fun v777 =>
  bnd2 (fM_labelAt M v776 v777) fun v779 M778 =>
  if (fM_thrown M778) = v774 then
    if v774 = 0 then
      if (ou772 0) = (Int32.toInt64 v779) then
        some (.inl (I, C, Y, Γ, D, O, M778, ou772, od, j773, (a5 + 6)))
      else
        some (.inr (false, I, C, Y, Γ, D, O, M778, ou772, od, j773))
    else
      some (.inl (I, C, Y, Γ, D, O, M778, ou772, od, j773, (a5 + 6)))
  else
    some (.inr (false, I, C, Y, Γ, D, O, M778, ou772, od, j773))
def fw_law_j1916 (S : Nat) (xs : Nat → Int32) (I : zI) (C : zC) (Y : Nat → Int32) (Γ : Nat → zG) (D : zD) (O : Nat → Int32) (M : zM) (ou : Nat → Int64) (od : Nat → UInt64) (j : Nat) (a5 : Int32) : Option ((zI × zC × (Nat → Int32) × (Nat → zG) × zD × (Nat → Int32) × zM × (Nat → Int64) × (Nat → UInt64) × Nat × Int32) ⊕ (Bool × zI × zC × (Nat → Int32) × (Nat → zG) × zD × (Nat → Int32) × zM × (Nat → Int64) × (Nat → UInt64) × Nat)) :=
  bnd (rd S xs (a5 + 1)) fun v781 =>
  bnd (rd S xs (a5 + 2)) fun v782 =>
  bnd3 (fw_hemObstacle Γ ou j v781 v782) fun v785 ou783 j784 =>
  bnd (rd S xs (a5 + 1)) fun v787 =>
  bnd (rd S xs (a5 + 2)) fun v788 =>
  bnd2 (fM_hemObstacle M v787 v788) fun v790 M789 =>
  if (fM_thrown M789) = v785 then
    if v785 = 0 then
      if (ou783 0) = (Int32.toInt64 v790) then
        some (.inl (I, C, Y, Γ, D, O, M789, ou783, od, j784, (a5 + 6)))
      else
        some (.inr (false, I, C, Y, Γ, D, O, M789, ou783, od, j784))
    else
      some (.inl (I, C, Y, Γ, D, O, M789, ou783, od, j784, (a5 + 6)))
  else
    some (.inr (false, I, C, Y, Γ, D, O, M789, ou783, od, j784))
def fw_law_j1984 (S : Nat) (xs : Nat → Int32) (I : zI) (C : zC) (Y : Nat → Int32) (Γ : Nat → zG) (D : zD) (O : Nat → Int32) (M : zM) (ou : Nat → Int64) (od : Nat → UInt64) (j : Nat) (a5 : Int32) : Option ((zI × zC × (Nat → Int32) × (Nat → zG) × zD × (Nat → Int32) × zM × (Nat → Int64) × (Nat → UInt64) × Nat × Int32) ⊕ (Bool × zI × zC × (Nat → Int32) × (Nat → zG) × zD × (Nat → Int32) × zM × (Nat → Int64) × (Nat → UInt64) × Nat)) :=
  bnd (rd S xs (a5 + 1)) fun v792 =>
  bnd (rd S xs (a5 + 2)) fun v793 =>
  bnd3 (fw_labelObstacle I Γ ou j v792 v793) fun v796 ou794 j795 =>
  bnd (rd S xs (a5 + 1)) fun v798 =>
  bnd (rd S xs (a5 + 2)) fun v799 =>
  bnd2 (fM_labelObstacle M v798 v799) fun v801 M800 =>
  if (fM_thrown M800) = v796 then
    if v796 = 0 then
      if (ou794 0) = (Int32.toInt64 v801) then
        some (.inl (I, C, Y, Γ, D, O, M800, ou794, od, j795, (a5 + 6)))
      else
        some (.inr (false, I, C, Y, Γ, D, O, M800, ou794, od, j795))
    else
      some (.inl (I, C, Y, Γ, D, O, M800, ou794, od, j795, (a5 + 6)))
  else
    some (.inr (false, I, C, Y, Γ, D, O, M800, ou794, od, j795))
def fw_law_j2052 (S : Nat) (xs : Nat → Int32) (I : zI) (C : zC) (Y : Nat → Int32) (Γ : Nat → zG) (D : zD) (O : Nat → Int32) (M : zM) (ou : Nat → Int64) (od : Nat → UInt64) (j : Nat) (a5 : Int32) : Option ((zI × zC × (Nat → Int32) × (Nat → zG) × zD × (Nat → Int32) × zM × (Nat → Int64) × (Nat → UInt64) × Nat × Int32) ⊕ (Bool × zI × zC × (Nat → Int32) × (Nat → zG) × zD × (Nat → Int32) × zM × (Nat → Int64) × (Nat → UInt64) × Nat)) :=
  bnd (rd S xs (a5 + 1)) fun v803 =>
  bnd (rd S xs (a5 + 2)) fun v804 =>
  bnd3 (fw_stepObstacle Γ ou j v803 v804) fun v807 ou805 j806 =>
  bnd (rd S xs (a5 + 1)) fun v809 =>
  bnd (rd S xs (a5 + 2)) fun v810 =>
  bnd2 (fM_stepObstacle M v809 v810) fun v812 M811 =>
  if (fM_thrown M811) = v807 then
    if v807 = 0 then
      if (ou805 0) = (Int32.toInt64 v812) then
        some (.inl (I, C, Y, Γ, D, O, M811, ou805, od, j806, (a5 + 6)))
      else
        some (.inr (false, I, C, Y, Γ, D, O, M811, ou805, od, j806))
    else
      some (.inl (I, C, Y, Γ, D, O, M811, ou805, od, j806, (a5 + 6)))
  else
    some (.inr (false, I, C, Y, Γ, D, O, M811, ou805, od, j806))
def fw_law_j2120 (S : Nat) (xs : Nat → Int32) (I : zI) (C : zC) (Y : Nat → Int32) (Γ : Nat → zG) (D : zD) (O : Nat → Int32) (M : zM) (ou : Nat → Int64) (od : Nat → UInt64) (j : Nat) (a5 : Int32) : Option ((zI × zC × (Nat → Int32) × (Nat → zG) × zD × (Nat → Int32) × zM × (Nat → Int64) × (Nat → UInt64) × Nat × Int32) ⊕ (Bool × zI × zC × (Nat → Int32) × (Nat → zG) × zD × (Nat → Int32) × zM × (Nat → Int64) × (Nat → UInt64) × Nat)) :=
  bnd (rd S xs (a5 + 1)) fun v814 =>
  bnd4 (fw_hoursUntilTear Γ ou j v814) fun v818 Γ815 ou816 j817 =>
  bnd (rd S xs (a5 + 1)) fun v820 =>
  bnd2 (fM_hoursUntilTear M v820) fun v822 M821 =>
  if (fM_thrown M821) = v818 then
    if v818 = 0 then
      if (ou816 0) = (Int32.toInt64 v822) then
        some (.inl (I, C, Y, Γ815, D, O, M821, ou816, od, j817, (a5 + 6)))
      else
        some (.inr (false, I, C, Y, Γ815, D, O, M821, ou816, od, j817))
    else
      some (.inl (I, C, Y, Γ815, D, O, M821, ou816, od, j817, (a5 + 6)))
  else
    some (.inr (false, I, C, Y, Γ815, D, O, M821, ou816, od, j817))
def fw_law_j2176 (S : Nat) (xs : Nat → Int32) (I : zI) (C : zC) (Y : Nat → Int32) (Γ : Nat → zG) (D : zD) (O : Nat → Int32) (M : zM) (ou : Nat → Int64) (od : Nat → UInt64) (j : Nat) (a5 : Int32) : Option ((zI × zC × (Nat → Int32) × (Nat → zG) × zD × (Nat → Int32) × zM × (Nat → Int64) × (Nat → UInt64) × Nat × Int32) ⊕ (Bool × zI × zC × (Nat → Int32) × (Nat → zG) × zD × (Nat → Int32) × zM × (Nat → Int64) × (Nat → UInt64) × Nat)) :=
  bnd (rd S xs (a5 + 1)) fun v824 =>
  bnd (rd S xs (a5 + 2)) fun v825 =>
  bnd4 (fw_meridianAfter Γ ou j v824 v825) fun v829 Γ826 ou827 j828 =>
  bnd (rd S xs (a5 + 1)) fun v831 =>
  bnd (rd S xs (a5 + 2)) fun v832 =>
  bnd2 (fM_meridianAfter M v831 v832) fun v834 M833 =>
  if (fM_thrown M833) = v829 then
    if v829 = 0 then
      if (ou827 0) = (Int32.toInt64 v834) then
        some (.inl (I, C, Y, Γ826, D, O, M833, ou827, od, j828, (a5 + 6)))
      else
        some (.inr (false, I, C, Y, Γ826, D, O, M833, ou827, od, j828))
    else
      some (.inl (I, C, Y, Γ826, D, O, M833, ou827, od, j828, (a5 + 6)))
  else
    some (.inr (false, I, C, Y, Γ826, D, O, M833, ou827, od, j828))
def fw_law_j2244 (S : Nat) (xs : Nat → Int32) (I : zI) (C : zC) (Y : Nat → Int32) (Γ : Nat → zG) (D : zD) (O : Nat → Int32) (M : zM) (ou : Nat → Int64) (od : Nat → UInt64) (j : Nat) (a5 : Int32) : Option ((zI × zC × (Nat → Int32) × (Nat → zG) × zD × (Nat → Int32) × zM × (Nat → Int64) × (Nat → UInt64) × Nat × Int32) ⊕ (Bool × zI × zC × (Nat → Int32) × (Nat → zG) × zD × (Nat → Int32) × zM × (Nat → Int64) × (Nat → UInt64) × Nat)) :=
  bnd (fX_violations Γ) fun v836 =>
  bnd2 (fM_violations M) fun v839 M838 =>
  if v836 = v839 then
    some (.inl (I, C, Y, Γ, D, O, M838, ou, od, j, (a5 + 6)))
  else
    some (.inr (false, I, C, Y, Γ, D, O, M838, ou, od, j))
def fw_law_j2257 (S : Nat) (xs : Nat → Int32) (I : zI) (C : zC) (Y : Nat → Int32) (Γ : Nat → zG) (D : zD) (O : Nat → Int32) (M : zM) (ou : Nat → Int64) (od : Nat → UInt64) (j : Nat) (a5 : Int32) : Option ((zI × zC × (Nat → Int32) × (Nat → zG) × zD × (Nat → Int32) × zM × (Nat → Int64) × (Nat → UInt64) × Nat × Int32) ⊕ (Bool × zI × zC × (Nat → Int32) × (Nat → zG) × zD × (Nat → Int32) × zM × (Nat → Int64) × (Nat → UInt64) × Nat)) :=
  bnd (fX_meanStitches Γ) fun v841 =>
  bnd2 (fM_meanStitches M) fun v844 M843 =>
  if (Op.cmpValue (FP.dcmp v841 v844) .l) = 0 then
    some (.inl (I, C, Y, Γ, D, O, M843, ou, od, j, (a5 + 6)))
  else
    if (Op.cmpValue (FP.dcmp v841 v841) .l) = 0 then
      some (.inr (false, I, C, Y, Γ, D, O, M843, ou, od, j))
    else
      if (Op.cmpValue (FP.dcmp v844 v844) .l) = 0 then
        some (.inr (false, I, C, Y, Γ, D, O, M843, ou, od, j))
      else
        some (.inl (I, C, Y, Γ, D, O, M843, ou, od, j, (a5 + 6)))
def fw_law_j2298 (S : Nat) (xs : Nat → Int32) (I : zI) (C : zC) (Y : Nat → Int32) (Γ : Nat → zG) (D : zD) (O : Nat → Int32) (M : zM) (ou : Nat → Int64) (od : Nat → UInt64) (j : Nat) (a5 : Int32) : Option ((zI × zC × (Nat → Int32) × (Nat → zG) × zD × (Nat → Int32) × zM × (Nat → Int64) × (Nat → UInt64) × Nat × Int32) ⊕ (Bool × zI × zC × (Nat → Int32) × (Nat → zG) × zD × (Nat → Int32) × zM × (Nat → Int64) × (Nat → UInt64) × Nat)) :=
  bnd (rd S xs (a5 + 1)) fun v846 =>
  bnd3 (fw_labelShare Γ od j v846) fun v849 od847 j848 =>
  bnd (rd S xs (a5 + 1)) fun v851 =>
  bnd2 (fM_labelShare M v851) fun v853 M852 =>
  if (fM_thrown M852) = v849 then
    if v849 = 0 then
      bnd (zf2d v853) fun v855 =>
      if (Op.cmpValue (FP.dcmp (od847 0) v855) .l) = 0 then
        some (.inl (I, C, Y, Γ, D, O, M852, ou, od847, j848, (a5 + 6)))
      else
        if (Op.cmpValue (FP.dcmp (od847 0) (od847 0)) .l) = 0 then
          some (.inr (false, I, C, Y, Γ, D, O, M852, ou, od847, j848))
        else
          if (Op.cmpValue (FP.fcmp v853 v853) .l) = 0 then
            some (.inr (false, I, C, Y, Γ, D, O, M852, ou, od847, j848))
          else
            some (.inl (I, C, Y, Γ, D, O, M852, ou, od847, j848, (a5 + 6)))
    else
      some (.inl (I, C, Y, Γ, D, O, M852, ou, od847, j848, (a5 + 6)))
  else
    some (.inr (false, I, C, Y, Γ, D, O, M852, ou, od847, j848))
def fw_law_j2376 (S : Nat) (xs : Nat → Int32) (I : zI) (C : zC) (Y : Nat → Int32) (Γ : Nat → zG) (D : zD) (O : Nat → Int32) (M : zM) (ou : Nat → Int64) (od : Nat → UInt64) (j : Nat) (a5 : Int32) : Option ((zI × zC × (Nat → Int32) × (Nat → zG) × zD × (Nat → Int32) × zM × (Nat → Int64) × (Nat → UInt64) × Nat × Int32) ⊕ (Bool × zI × zC × (Nat → Int32) × (Nat → zG) × zD × (Nat → Int32) × zM × (Nat → Int64) × (Nat → UInt64) × Nat)) :=
  bnd (rd S xs (a5 + 1)) fun v856 =>
  bnd (rd S xs (a5 + 2)) fun v857 =>
  bnd6 (fw_addTown I Y Γ ou j v856 v857) fun v863 I858 Y859 Γ860 ou861 j862 =>
  bnd (rd S xs (a5 + 1)) fun v865 =>
  bnd (rd S xs (a5 + 2)) fun v866 =>
  bnd2 (fM_addTown M v865 v866) fun v868 M867 =>
  if (fM_thrown M867) = v863 then
    if v863 = 0 then
      if (ou861 0) = (Int32.toInt64 v868) then
        some (.inl (I858, C, Y859, Γ860, D, O, M867, ou861, od, j862, (a5 + 6)))
      else
        some (.inr (false, I858, C, Y859, Γ860, D, O, M867, ou861, od, j862))
    else
      some (.inl (I858, C, Y859, Γ860, D, O, M867, ou861, od, j862, (a5 + 6)))
  else
    some (.inr (false, I858, C, Y859, Γ860, D, O, M867, ou861, od, j862))
def fw_law_j2444 (S : Nat) (xs : Nat → Int32) (I : zI) (C : zC) (Y : Nat → Int32) (Γ : Nat → zG) (D : zD) (O : Nat → Int32) (M : zM) (ou : Nat → Int64) (od : Nat → UInt64) (j : Nat) (a5 : Int32) : Option ((zI × zC × (Nat → Int32) × (Nat → zG) × zD × (Nat → Int32) × zM × (Nat → Int64) × (Nat → UInt64) × Nat × Int32) ⊕ (Bool × zI × zC × (Nat → Int32) × (Nat → zG) × zD × (Nat → Int32) × zM × (Nat → Int64) × (Nat → UInt64) × Nat)) :=
  bnd (rd S xs (a5 + 1)) fun v870 =>
  bnd (rd S xs (a5 + 2)) fun v871 =>
  bnd6 (fw_addTraveller I Y Γ ou j v870 v871) fun v877 I872 Y873 Γ874 ou875 j876 =>
  bnd (rd S xs (a5 + 1)) fun v879 =>
  bnd (rd S xs (a5 + 2)) fun v880 =>
  bnd2 (fM_addTraveller M v879 v880) fun v882 M881 =>
  if (fM_thrown M881) = v877 then
    if v877 = 0 then
      if (ou875 0) = (Int32.toInt64 v882) then
        some (.inl (I872, C, Y873, Γ874, D, O, M881, ou875, od, j876, (a5 + 6)))
      else
        some (.inr (false, I872, C, Y873, Γ874, D, O, M881, ou875, od, j876))
    else
      some (.inl (I872, C, Y873, Γ874, D, O, M881, ou875, od, j876, (a5 + 6)))
  else
    some (.inr (false, I872, C, Y873, Γ874, D, O, M881, ou875, od, j876))
def fw_law_j2512 (S : Nat) (xs : Nat → Int32) (I : zI) (C : zC) (Y : Nat → Int32) (Γ : Nat → zG) (D : zD) (O : Nat → Int32) (M : zM) (ou : Nat → Int64) (od : Nat → UInt64) (j : Nat) (a5 : Int32) : Option ((zI × zC × (Nat → Int32) × (Nat → zG) × zD × (Nat → Int32) × zM × (Nat → Int64) × (Nat → UInt64) × Nat × Int32) ⊕ (Bool × zI × zC × (Nat → Int32) × (Nat → zG) × zD × (Nat → Int32) × zM × (Nat → Int64) × (Nat → UInt64) × Nat)) :=
  bnd (rd S xs (a5 + 1)) fun v884 =>
  bnd (rd S xs (a5 + 2)) fun v885 =>
  bnd6 (fw_addLabel I Y Γ ou j v884 v885) fun v891 I886 Y887 Γ888 ou889 j890 =>
  bnd (rd S xs (a5 + 1)) fun v893 =>
  bnd (rd S xs (a5 + 2)) fun v894 =>
  bnd2 (fM_addLabel M v893 v894) fun v896 M895 =>
  if (fM_thrown M895) = v891 then
    if v891 = 0 then
      if (ou889 0) = (Int32.toInt64 v896) then
        some (.inl (I886, C, Y887, Γ888, D, O, M895, ou889, od, j890, (a5 + 6)))
      else
        some (.inr (false, I886, C, Y887, Γ888, D, O, M895, ou889, od, j890))
    else
      some (.inl (I886, C, Y887, Γ888, D, O, M895, ou889, od, j890, (a5 + 6)))
  else
    some (.inr (false, I886, C, Y887, Γ888, D, O, M895, ou889, od, j890))
def fw_law_j2580 (S : Nat) (xs : Nat → Int32) (I : zI) (C : zC) (Y : Nat → Int32) (Γ : Nat → zG) (D : zD) (O : Nat → Int32) (M : zM) (ou : Nat → Int64) (od : Nat → UInt64) (j : Nat) (a5 : Int32) : Option ((zI × zC × (Nat → Int32) × (Nat → zG) × zD × (Nat → Int32) × zM × (Nat → Int64) × (Nat → UInt64) × Nat × Int32) ⊕ (Bool × zI × zC × (Nat → Int32) × (Nat → zG) × zD × (Nat → Int32) × zM × (Nat → Int64) × (Nat → UInt64) × Nat)) :=
  bnd (rd S xs (a5 + 1)) fun v898 =>
  bnd (rd S xs (a5 + 2)) fun v899 =>
  bnd5 (fw_moveHem Y Γ ou j v898 v899) fun v904 Y900 Γ901 ou902 j903 =>
  bnd (rd S xs (a5 + 1)) fun v906 =>
  bnd (rd S xs (a5 + 2)) fun v907 =>
  bnd2 (fM_moveHem M v906 v907) fun v909 M908 =>
  if (fM_thrown M908) = v904 then
    if v904 = 0 then
      if (ou902 0) = (Int32.toInt64 v909) then
        some (.inl (I, C, Y900, Γ901, D, O, M908, ou902, od, j903, (a5 + 6)))
      else
        some (.inr (false, I, C, Y900, Γ901, D, O, M908, ou902, od, j903))
    else
      some (.inl (I, C, Y900, Γ901, D, O, M908, ou902, od, j903, (a5 + 6)))
  else
    some (.inr (false, I, C, Y900, Γ901, D, O, M908, ou902, od, j903))
def fw_law_j2648 (S : Nat) (xs : Nat → Int32) (I : zI) (C : zC) (Y : Nat → Int32) (Γ : Nat → zG) (D : zD) (O : Nat → Int32) (M : zM) (ou : Nat → Int64) (od : Nat → UInt64) (j : Nat) (a5 : Int32) : Option ((zI × zC × (Nat → Int32) × (Nat → zG) × zD × (Nat → Int32) × zM × (Nat → Int64) × (Nat → UInt64) × Nat × Int32) ⊕ (Bool × zI × zC × (Nat → Int32) × (Nat → zG) × zD × (Nat → Int32) × zM × (Nat → Int64) × (Nat → UInt64) × Nat)) :=
  bnd (rd S xs (a5 + 1)) fun v911 =>
  bnd (rd S xs (a5 + 2)) fun v912 =>
  bnd5 (fw_sew Y Γ ou j v911 v912) fun v917 Y913 Γ914 ou915 j916 =>
  bnd (rd S xs (a5 + 1)) fun v919 =>
  bnd (rd S xs (a5 + 2)) fun v920 =>
  bnd2 (fM_sew M v919 v920) fun v922 M921 =>
  if (fM_thrown M921) = v917 then
    if v917 = 0 then
      if (ou915 0) = (Int32.toInt64 v922) then
        some (.inl (I, C, Y913, Γ914, D, O, M921, ou915, od, j916, (a5 + 6)))
      else
        some (.inr (false, I, C, Y913, Γ914, D, O, M921, ou915, od, j916))
    else
      some (.inl (I, C, Y913, Γ914, D, O, M921, ou915, od, j916, (a5 + 6)))
  else
    some (.inr (false, I, C, Y913, Γ914, D, O, M921, ou915, od, j916))
def fw_law_j2716 (S : Nat) (xs : Nat → Int32) (I : zI) (C : zC) (Y : Nat → Int32) (Γ : Nat → zG) (D : zD) (O : Nat → Int32) (M : zM) (ou : Nat → Int64) (od : Nat → UInt64) (j : Nat) (a5 : Int32) : Option ((zI × zC × (Nat → Int32) × (Nat → zG) × zD × (Nat → Int32) × zM × (Nat → Int64) × (Nat → UInt64) × Nat × Int32) ⊕ (Bool × zI × zC × (Nat → Int32) × (Nat → zG) × zD × (Nat → Int32) × zM × (Nat → Int64) × (Nat → UInt64) × Nat)) :=
  bnd (rd S xs (a5 + 1)) fun v924 =>
  bnd5 (fw_rip Y Γ ou j v924) fun v929 Y925 Γ926 ou927 j928 =>
  bnd (rd S xs (a5 + 1)) fun v931 =>
  bnd2 (fM_rip M v931) fun v933 M932 =>
  if (fM_thrown M932) = v929 then
    if v929 = 0 then
      if (ou927 0) = (Int32.toInt64 v933) then
        some (.inl (I, C, Y925, Γ926, D, O, M932, ou927, od, j928, (a5 + 6)))
      else
        some (.inr (false, I, C, Y925, Γ926, D, O, M932, ou927, od, j928))
    else
      some (.inl (I, C, Y925, Γ926, D, O, M932, ou927, od, j928, (a5 + 6)))
  else
    some (.inr (false, I, C, Y925, Γ926, D, O, M932, ou927, od, j928))
def fw_law_j2772 (S : Nat) (xs : Nat → Int32) (I : zI) (C : zC) (Y : Nat → Int32) (Γ : Nat → zG) (D : zD) (O : Nat → Int32) (M : zM) (ou : Nat → Int64) (od : Nat → UInt64) (j : Nat) (a5 : Int32) : Option ((zI × zC × (Nat → Int32) × (Nat → zG) × zD × (Nat → Int32) × zM × (Nat → Int64) × (Nat → UInt64) × Nat × Int32) ⊕ (Bool × zI × zC × (Nat → Int32) × (Nat → zG) × zD × (Nat → Int32) × zM × (Nat → Int64) × (Nat → UInt64) × Nat)) :=
  bnd (rd S xs (a5 + 1)) fun v935 =>
  bnd (rd S xs (a5 + 2)) fun v936 =>
  bnd5 (fw_step Y Γ ou j v935 v936) fun v941 Y937 Γ938 ou939 j940 =>
  bnd (rd S xs (a5 + 1)) fun v943 =>
  bnd (rd S xs (a5 + 2)) fun v944 =>
  bnd2 (fM_step M v943 v944) fun v946 M945 =>
  if (fM_thrown M945) = v941 then
    if v941 = 0 then
      if (ou939 0) = (Int32.toInt64 v946) then
        some (.inl (I, C, Y937, Γ938, D, O, M945, ou939, od, j940, (a5 + 6)))
      else
        some (.inr (false, I, C, Y937, Γ938, D, O, M945, ou939, od, j940))
    else
      some (.inl (I, C, Y937, Γ938, D, O, M945, ou939, od, j940, (a5 + 6)))
  else
    some (.inr (false, I, C, Y937, Γ938, D, O, M945, ou939, od, j940))
def fw_law_j2840 (S : Nat) (xs : Nat → Int32) (I : zI) (C : zC) (Y : Nat → Int32) (Γ : Nat → zG) (D : zD) (O : Nat → Int32) (M : zM) (ou : Nat → Int64) (od : Nat → UInt64) (j : Nat) (a5 : Int32) : Option ((zI × zC × (Nat → Int32) × (Nat → zG) × zD × (Nat → Int32) × zM × (Nat → Int64) × (Nat → UInt64) × Nat × Int32) ⊕ (Bool × zI × zC × (Nat → Int32) × (Nat → zG) × zD × (Nat → Int32) × zM × (Nat → Int64) × (Nat → UInt64) × Nat)) :=
  bnd (rd S xs (a5 + 1)) fun v948 =>
  bnd (rd S xs (a5 + 2)) fun v949 =>
  bnd (rd S xs (a5 + 3)) fun v950 =>
  bnd5 (fw_walk Y Γ ou j v948 v949 v950) fun v955 Y951 Γ952 ou953 j954 =>
  bnd (rd S xs (a5 + 1)) fun v957 =>
  bnd (rd S xs (a5 + 2)) fun v958 =>
  bnd (rd S xs (a5 + 3)) fun v959 =>
  bnd2 (fM_walk M v957 v958 v959) fun v961 M960 =>
  if (fM_thrown M960) = v955 then
    if v955 = 0 then
      if (ou953 0) = (Int32.toInt64 v961) then
        some (.inl (I, C, Y951, Γ952, D, O, M960, ou953, od, j954, (a5 + 6)))
      else
        some (.inr (false, I, C, Y951, Γ952, D, O, M960, ou953, od, j954))
    else
      some (.inl (I, C, Y951, Γ952, D, O, M960, ou953, od, j954, (a5 + 6)))
  else
    some (.inr (false, I, C, Y951, Γ952, D, O, M960, ou953, od, j954))
def fw_law_j2920 (S : Nat) (xs : Nat → Int32) (I : zI) (C : zC) (Y : Nat → Int32) (Γ : Nat → zG) (D : zD) (O : Nat → Int32) (M : zM) (ou : Nat → Int64) (od : Nat → UInt64) (j : Nat) (a5 : Int32) : Option ((zI × zC × (Nat → Int32) × (Nat → zG) × zD × (Nat → Int32) × zM × (Nat → Int64) × (Nat → UInt64) × Nat × Int32) ⊕ (Bool × zI × zC × (Nat → Int32) × (Nat → zG) × zD × (Nat → Int32) × zM × (Nat → Int64) × (Nat → UInt64) × Nat)) :=
  bnd (rd S xs (a5 + 1)) fun v963 =>
  bnd5 (fw_pass Y Γ ou j v963) fun v968 Y964 Γ965 ou966 j967 =>
  bnd (rd S xs (a5 + 1)) fun v970 =>
  bnd2 (fM_pass M v970) fun v972 M971 =>
  if (fM_thrown M971) = v968 then
    if v968 = 0 then
      if (ou966 0) = (Int32.toInt64 v972) then
        some (.inl (I, C, Y964, Γ965, D, O, M971, ou966, od, j967, (a5 + 6)))
      else
        some (.inr (false, I, C, Y964, Γ965, D, O, M971, ou966, od, j967))
    else
      some (.inl (I, C, Y964, Γ965, D, O, M971, ou966, od, j967, (a5 + 6)))
  else
    some (.inr (false, I, C, Y964, Γ965, D, O, M971, ou966, od, j967))
def fw_law_j2976 (S : Nat) (xs : Nat → Int32) (I : zI) (C : zC) (Y : Nat → Int32) (Γ : Nat → zG) (D : zD) (O : Nat → Int32) (M : zM) (ou : Nat → Int64) (od : Nat → UInt64) (j : Nat) (a5 : Int32) : Option ((zI × zC × (Nat → Int32) × (Nat → zG) × zD × (Nat → Int32) × zM × (Nat → Int64) × (Nat → UInt64) × Nat × Int32) ⊕ (Bool × zI × zC × (Nat → Int32) × (Nat → zG) × zD × (Nat → Int32) × zM × (Nat → Int64) × (Nat → UInt64) × Nat)) :=
  bnd5 (fw_undo Y Γ ou j) fun v978 Y974 Γ975 ou976 j977 =>
  bnd2 (fM_undo M) fun v981 M980 =>
  if (fM_thrown M980) = v978 then
    if v978 = 0 then
      if (ou976 0) = (Int32.toInt64 v981) then
        some (.inl (I, C, Y974, Γ975, D, O, M980, ou976, od, j977, (a5 + 6)))
      else
        some (.inr (false, I, C, Y974, Γ975, D, O, M980, ou976, od, j977))
    else
      some (.inl (I, C, Y974, Γ975, D, O, M980, ou976, od, j977, (a5 + 6)))
  else
    some (.inr (false, I, C, Y974, Γ975, D, O, M980, ou976, od, j977))
def fw_law_j3020 (S : Nat) (xs : Nat → Int32) (I : zI) (C : zC) (Y : Nat → Int32) (Γ : Nat → zG) (D : zD) (O : Nat → Int32) (M : zM) (ou : Nat → Int64) (od : Nat → UInt64) (j : Nat) (a5 : Int32) : Option ((zI × zC × (Nat → Int32) × (Nat → zG) × zD × (Nat → Int32) × zM × (Nat → Int64) × (Nat → UInt64) × Nat × Int32) ⊕ (Bool × zI × zC × (Nat → Int32) × (Nat → zG) × zD × (Nat → Int32) × zM × (Nat → Int64) × (Nat → UInt64) × Nat)) :=
  bnd (rd S xs (a5 + 1)) fun v983 =>
  bnd5 (fw_printBand Γ D O ou j v983) fun v988 D984 O985 ou986 j987 =>
  bnd (rd S xs (a5 + 1)) fun v990 =>
  bnd2 (fM_printBand M v990) fun v992 M991 =>
  if (fM_thrown M991) = v988 then
    if v988 = 0 then
      if (ou986 0) = (Int32.toInt64 v992) then
        some (.inl (I, C, Y, Γ, D984, O985, M991, ou986, od, j987, (a5 + 6)))
      else
        some (.inr (false, I, C, Y, Γ, D984, O985, M991, ou986, od, j987))
    else
      some (.inl (I, C, Y, Γ, D984, O985, M991, ou986, od, j987, (a5 + 6)))
  else
    some (.inr (false, I, C, Y, Γ, D984, O985, M991, ou986, od, j987))
def fw_law_j3076 (S : Nat) (xs : Nat → Int32) (I : zI) (C : zC) (Y : Nat → Int32) (Γ : Nat → zG) (D : zD) (O : Nat → Int32) (M : zM) (ou : Nat → Int64) (od : Nat → UInt64) (j : Nat) (a5 : Int32) : Option ((zI × zC × (Nat → Int32) × (Nat → zG) × zD × (Nat → Int32) × zM × (Nat → Int64) × (Nat → UInt64) × Nat × Int32) ⊕ (Bool × zI × zC × (Nat → Int32) × (Nat → zG) × zD × (Nat → Int32) × zM × (Nat → Int64) × (Nat → UInt64) × Nat)) :=
  bnd (rd S xs (a5 + 1)) fun v994 =>
  bnd3 (fw_outputByte D O ou j v994) fun v997 ou995 j996 =>
  bnd (rd S xs (a5 + 1)) fun v999 =>
  bnd2 (fM_outputByte M v999) fun v1001 M1000 =>
  if (fM_thrown M1000) = v997 then
    if v997 = 0 then
      if (ou995 0) = (Int32.toInt64 v1001) then
        some (.inl (I, C, Y, Γ, D, O, M1000, ou995, od, j996, (a5 + 6)))
      else
        some (.inr (false, I, C, Y, Γ, D, O, M1000, ou995, od, j996))
    else
      some (.inl (I, C, Y, Γ, D, O, M1000, ou995, od, j996, (a5 + 6)))
  else
    some (.inr (false, I, C, Y, Γ, D, O, M1000, ou995, od, j996))
def fw_law_j3132 (S : Nat) (xs : Nat → Int32) (I : zI) (C : zC) (Y : Nat → Int32) (Γ : Nat → zG) (D : zD) (O : Nat → Int32) (M : zM) (ou : Nat → Int64) (od : Nat → UInt64) (j : Nat) (a5 : Int32) : Option ((zI × zC × (Nat → Int32) × (Nat → zG) × zD × (Nat → Int32) × zM × (Nat → Int64) × (Nat → UInt64) × Nat × Int32) ⊕ (Bool × zI × zC × (Nat → Int32) × (Nat → zG) × zD × (Nat → Int32) × zM × (Nat → Int64) × (Nat → UInt64) × Nat)) :=
  bnd3 (fX_saveState Γ D) fun v1005 Γ1003 D1004 =>
  bnd2 (fM_saveState M) fun v1008 M1007 =>
  if v1005 = v1008 then
    some (.inl (I, C, Y, Γ1003, D1004, O, M1007, ou, od, j, (a5 + 6)))
  else
    some (.inr (false, I, C, Y, Γ1003, D1004, O, M1007, ou, od, j))
def fw_law_j3145 (S : Nat) (xs : Nat → Int32) (I : zI) (C : zC) (Y : Nat → Int32) (Γ : Nat → zG) (D : zD) (O : Nat → Int32) (M : zM) (ou : Nat → Int64) (od : Nat → UInt64) (j : Nat) (a5 : Int32) : Option ((zI × zC × (Nat → Int32) × (Nat → zG) × zD × (Nat → Int32) × zM × (Nat → Int64) × (Nat → UInt64) × Nat × Int32) ⊕ (Bool × zI × zC × (Nat → Int32) × (Nat → zG) × zD × (Nat → Int32) × zM × (Nat → Int64) × (Nat → UInt64) × Nat)) :=
  bnd5 (fw_restoreState Y Γ D ou j) fun v1014 Y1010 Γ1011 ou1012 j1013 =>
  bnd2 (fM_restoreState M) fun v1017 M1016 =>
  if (fM_thrown M1016) = v1014 then
    if v1014 = 0 then
      if (ou1012 0) = (Int32.toInt64 v1017) then
        some (.inl (I, C, Y1010, Γ1011, D, O, M1016, ou1012, od, j1013, (a5 + 6)))
      else
        some (.inr (false, I, C, Y1010, Γ1011, D, O, M1016, ou1012, od, j1013))
    else
      some (.inl (I, C, Y1010, Γ1011, D, O, M1016, ou1012, od, j1013, (a5 + 6)))
  else
    some (.inr (false, I, C, Y1010, Γ1011, D, O, M1016, ou1012, od, j1013))
def fw_law_b28 (S : Nat) (xs : Nat → Int32) (I : zI) (C : zC) (Y : Nat → Int32) (Γ : Nat → zG) (D : zD) (O : Nat → Int32) (M : zM) (ou : Nat → Int64) (od : Nat → UInt64) (j : Nat) (a5 : Int32) : Option ((zI × zC × (Nat → Int32) × (Nat → zG) × zD × (Nat → Int32) × zM × (Nat → Int64) × (Nat → UInt64) × Nat × Int32) ⊕ (Bool × zI × zC × (Nat → Int32) × (Nat → zG) × zD × (Nat → Int32) × zM × (Nat → Int64) × (Nat → UInt64) × Nat)) :=
  if ((Int32.ofNat S) - 6) < a5 then
    some (.inr (true, I, C, Y, Γ, D, O, M, ou, od, j))
  else
    bnd (rd S xs a5) fun v1019 =>
    if (v1019 &&& 63) = 0 then
      fw_law_j288 S xs I C Y Γ D O M ou od j a5
    else
    if (v1019 &&& 63) = 1 then
      fw_law_j392 S xs I C Y Γ D O M ou od j a5
    else
    if (v1019 &&& 63) = 2 then
      fw_law_j448 S xs I C Y Γ D O M ou od j a5
    else
    if (v1019 &&& 63) = 3 then
      fw_law_j492 S xs I C Y Γ D O M ou od j a5
    else
    if (v1019 &&& 63) = 4 then
      fw_law_j536 S xs I C Y Γ D O M ou od j a5
    else
    if (v1019 &&& 63) = 5 then
      fw_law_j549 S xs I C Y Γ D O M ou od j a5
    else
    if (v1019 &&& 63) = 6 then
      fw_law_j562 S xs I C Y Γ D O M ou od j a5
    else
    if (v1019 &&& 63) = 7 then
      fw_law_j575 S xs I C Y Γ D O M ou od j a5
    else
    if (v1019 &&& 63) = 8 then
      fw_law_j631 S xs I C Y Γ D O M ou od j a5
    else
    if (v1019 &&& 63) = 9 then
      fw_law_j687 S xs I C Y Γ D O M ou od j a5
    else
    if (v1019 &&& 63) = 10 then
      fw_law_j743 S xs I C Y Γ D O M ou od j a5
    else
    if (v1019 &&& 63) = 11 then
      fw_law_j799 S xs I C Y Γ D O M ou od j a5
    else
    if (v1019 &&& 63) = 12 then
      fw_law_j855 S xs I C Y Γ D O M ou od j a5
    else
    if (v1019 &&& 63) = 13 then
      fw_law_j868 S xs I C Y Γ D O M ou od j a5
    else
    if (v1019 &&& 63) = 14 then
      fw_law_j881 S xs I C Y Γ D O M ou od j a5
    else
    if (v1019 &&& 63) = 15 then
      fw_law_j937 S xs I C Y Γ D O M ou od j a5
    else
    if (v1019 &&& 63) = 16 then
      fw_law_j1005 S xs I C Y Γ D O M ou od j a5
    else
    if (v1019 &&& 63) = 17 then
      fw_law_j1073 S xs I C Y Γ D O M ou od j a5
    else
    if (v1019 &&& 63) = 18 then
      fw_law_j1141 S xs I C Y Γ D O M ou od j a5
    else
    if (v1019 &&& 63) = 19 then
      fw_law_j1154 S xs I C Y Γ D O M ou od j a5
    else
    if (v1019 &&& 63) = 20 then
      fw_law_j1167 S xs I C Y Γ D O M ou od j a5
    else
    if (v1019 &&& 63) = 21 then
      fw_law_j1235 S xs I C Y Γ D O M ou od j a5
    else
    if (v1019 &&& 63) = 22 then
      fw_law_j1248 S xs I C Y Γ D O M ou od j a5
    else
    if (v1019 &&& 63) = 23 then
      fw_law_j1311 S xs I C Y Γ D O M ou od j a5
    else
    if (v1019 &&& 63) = 24 then
      fw_law_j1367 S xs I C Y Γ D O M ou od j a5
    else
    if (v1019 &&& 63) = 25 then
      fw_law_j1423 S xs I C Y Γ D O M ou od j a5
    else
    if (v1019 &&& 63) = 26 then
      fw_law_j1479 S xs I C Y Γ D O M ou od j a5
    else
    if (v1019 &&& 63) = 27 then
      fw_law_j1535 S xs I C Y Γ D O M ou od j a5
    else
    if (v1019 &&& 63) = 28 then
      fw_law_j1591 S xs I C Y Γ D O M ou od j a5
    else
    if (v1019 &&& 63) = 29 then
      fw_law_j1604 S xs I C Y Γ D O M ou od j a5
    else
    if (v1019 &&& 63) = 30 then
      fw_law_j1617 S xs I C Y Γ D O M ou od j a5
    else
    if (v1019 &&& 63) = 31 then
      fw_law_j1673 S xs I C Y Γ D O M ou od j a5
    else
    if (v1019 &&& 63) = 32 then
      fw_law_j1729 S xs I C Y Γ D O M ou od j a5
    else
    if (v1019 &&& 63) = 33 then
      fw_law_j1785 S xs I C Y Γ D O M ou od j a5
    else
    if (v1019 &&& 63) = 34 then
      fw_law_j1848 S xs I C Y Γ D O M ou od j a5
    else
    if (v1019 &&& 63) = 35 then
      fw_law_j1916 S xs I C Y Γ D O M ou od j a5
    else
    if (v1019 &&& 63) = 36 then
      fw_law_j1984 S xs I C Y Γ D O M ou od j a5
    else
    if (v1019 &&& 63) = 37 then
      fw_law_j2052 S xs I C Y Γ D O M ou od j a5
    else
    if (v1019 &&& 63) = 38 then
      fw_law_j2120 S xs I C Y Γ D O M ou od j a5
    else
    if (v1019 &&& 63) = 39 then
      fw_law_j2176 S xs I C Y Γ D O M ou od j a5
    else
    if (v1019 &&& 63) = 40 then
      fw_law_j2244 S xs I C Y Γ D O M ou od j a5
    else
    if (v1019 &&& 63) = 41 then
      fw_law_j2257 S xs I C Y Γ D O M ou od j a5
    else
    if (v1019 &&& 63) = 42 then
      fw_law_j2298 S xs I C Y Γ D O M ou od j a5
    else
    if (v1019 &&& 63) = 43 then
      fw_law_j2376 S xs I C Y Γ D O M ou od j a5
    else
    if (v1019 &&& 63) = 44 then
      fw_law_j2444 S xs I C Y Γ D O M ou od j a5
    else
    if (v1019 &&& 63) = 45 then
      fw_law_j2512 S xs I C Y Γ D O M ou od j a5
    else
    if (v1019 &&& 63) = 46 then
      fw_law_j2580 S xs I C Y Γ D O M ou od j a5
    else
    if (v1019 &&& 63) = 47 then
      fw_law_j2648 S xs I C Y Γ D O M ou od j a5
    else
    if (v1019 &&& 63) = 48 then
      fw_law_j2716 S xs I C Y Γ D O M ou od j a5
    else
    if (v1019 &&& 63) = 49 then
      fw_law_j2772 S xs I C Y Γ D O M ou od j a5
    else
    if (v1019 &&& 63) = 50 then
      fw_law_j2840 S xs I C Y Γ D O M ou od j a5
    else
    if (v1019 &&& 63) = 51 then
      fw_law_j2920 S xs I C Y Γ D O M ou od j a5
    else
    if (v1019 &&& 63) = 52 then
      fw_law_j2976 S xs I C Y Γ D O M ou od j a5
    else
    if (v1019 &&& 63) = 53 then
      fw_law_j3020 S xs I C Y Γ D O M ou od j a5
    else
    if (v1019 &&& 63) = 54 then
      fw_law_j3076 S xs I C Y Γ D O M ou od j a5
    else
    if (v1019 &&& 63) = 55 then
      fw_law_j3132 S xs I C Y Γ D O M ou od j a5
    else
    if (v1019 &&& 63) = 56 then
      fw_law_j3145 S xs I C Y Γ D O M ou od j a5
    else
      some (.inl (I, C, Y, Γ, D, O, M, ou, od, j, (a5 + 6)))
def fw_law (S : Nat) (xs : Nat → Int32) (I : zI) (C : zC) (Y : Nat → Int32) (Γ : Nat → zG) (D : zD) (O : Nat → Int32) (M : zM) (ou : Nat → Int64) (od : Nat → UInt64) (j : Nat) : Option (Bool × zI × zC × (Nat → Int32) × (Nat → zG) × zD × (Nat → Int32) × zM × (Nat → Int64) × (Nat → UInt64) × Nat) :=
  iter (fun s => fw_law_b28 S xs s.1 s.2.1 s.2.2.1 s.2.2.2.1 s.2.2.2.2.1 s.2.2.2.2.2.1 s.2.2.2.2.2.2.1 s.2.2.2.2.2.2.2.1 s.2.2.2.2.2.2.2.2.1 s.2.2.2.2.2.2.2.2.2.1 s.2.2.2.2.2.2.2.2.2.2) fu (I, C, Y, Γ, D, O, M, ou, od, j, 0)

/-! THE LAW'S CALLS (2) -/
section HJD
variable {S : Nat} {xs : Nat → Int32} {I : zI} {C : zC} {Y : Nat → Int32} {Γ : Nat → zG} {D : zD} {O : Nat → Int32} {M : zM} {ou : Nat → Int64} {od : Nat → UInt64} {j : Nat} {a5 : Int32} {B : Int}
theorem lj937 (hs : hS B I Y Γ D O M) (hB : B < 700000000) (hr : RD5 S xs a5) : LN B a5 j (fw_law_j937 S xs I C Y Γ D O M ou od j a5) := by
  obtain ⟨x, y, z, u, w, ⟨x1, x2⟩, ⟨y1, y2⟩, ⟨z1, z2⟩, r1, r2, r3, r4, r5⟩ := hr
  unfold fw_law_j937 fw_longitude
  rcases q_longitude hs.1 (by omega) x1 x2 y1 y2 with ⟨p, q, e1, e2, e3⟩ | ⟨q, e1, e2⟩ | ⟨q, e1, e2, ne⟩
  · subst e3
    simp only [e1, e2, r1, r2, r3, r4, r5, bnd_s, bnd2_s, bnd3_s, bnd4_s, bnd5_s, bnd6_s, bnd7_s, bnx_l, bnx_r, Sum.elim_inl, Sum.elim_inr, th_w, up_0, upd_0, ↓reduceIte, eq_self, if_true, if_false, c10, c20, c30, sXX, sXA, sXS, sAX, sAA, sAS, sSX, sSA, sSS, Bool.false_eq_true]
    exact LN_i rfl (hS_th hs) (by omega)
  · have e0 : True := trivial
    simp only [e1, e2, r1, r2, r3, r4, r5, bnd_s, bnd2_s, bnd3_s, bnd4_s, bnd5_s, bnd6_s, bnd7_s, bnx_l, bnx_r, Sum.elim_inl, Sum.elim_inr, th_w, up_0, upd_0, ↓reduceIte, eq_self, if_true, if_false, c10, c20, c30, sXX, sXA, sXS, sAX, sAA, sAS, sSX, sSA, sSS, Bool.false_eq_true]
    exact LN_i rfl (hS_th hs) (by omega)
  · exact absurd rfl ne
theorem lj1005 (hs : hS B I Y Γ D O M) (hB : B < 700000000) (hr : RD5 S xs a5) : LN B a5 j (fw_law_j1005 S xs I C Y Γ D O M ou od j a5) := by
  obtain ⟨x, y, z, u, w, ⟨x1, x2⟩, ⟨y1, y2⟩, ⟨z1, z2⟩, r1, r2, r3, r4, r5⟩ := hr
  unfold fw_law_j1005 fw_dayAt
  rcases q_dayAt hs.1 (by omega) x1 x2 y1 y2 with ⟨p, q, e1, e2, e3⟩ | ⟨q, e1, e2⟩ | ⟨q, e1, e2, ne⟩
  · subst e3
    simp only [e1, e2, r1, r2, r3, r4, r5, bnd_s, bnd2_s, bnd3_s, bnd4_s, bnd5_s, bnd6_s, bnd7_s, bnx_l, bnx_r, Sum.elim_inl, Sum.elim_inr, th_w, up_0, upd_0, ↓reduceIte, eq_self, if_true, if_false, c10, c20, c30, sXX, sXA, sXS, sAX, sAA, sAS, sSX, sSA, sSS, Bool.false_eq_true]
    exact LN_i rfl (hS_th hs) (by omega)
  · have e0 : True := trivial
    simp only [e1, e2, r1, r2, r3, r4, r5, bnd_s, bnd2_s, bnd3_s, bnd4_s, bnd5_s, bnd6_s, bnd7_s, bnx_l, bnx_r, Sum.elim_inl, Sum.elim_inr, th_w, up_0, upd_0, ↓reduceIte, eq_self, if_true, if_false, c10, c20, c30, sXX, sXA, sXS, sAX, sAA, sAS, sSX, sSA, sSS, Bool.false_eq_true]
    exact LN_i rfl (hS_th hs) (by omega)
  · exact absurd rfl ne
theorem lj1073 (hs : hS B I Y Γ D O M) (hB : B < 700000000) (hr : RD5 S xs a5) : LN B a5 j (fw_law_j1073 S xs I C Y Γ D O M ou od j a5) := by
  obtain ⟨x, y, z, u, w, ⟨x1, x2⟩, ⟨y1, y2⟩, ⟨z1, z2⟩, r1, r2, r3, r4, r5⟩ := hr
  unfold fw_law_j1073 fw_hourAt
  rcases q_hourAt hs.1 (by omega) x1 x2 y1 y2 with ⟨p, q, e1, e2, e3⟩ | ⟨q, e1, e2⟩ | ⟨q, e1, e2, ne⟩
  · subst e3
    simp only [e1, e2, r1, r2, r3, r4, r5, bnd_s, bnd2_s, bnd3_s, bnd4_s, bnd5_s, bnd6_s, bnd7_s, bnx_l, bnx_r, Sum.elim_inl, Sum.elim_inr, th_w, up_0, upd_0, ↓reduceIte, eq_self, if_true, if_false, c10, c20, c30, sXX, sXA, sXS, sAX, sAA, sAS, sSX, sSA, sSS, Bool.false_eq_true]
    exact LN_i rfl (hS_th hs) (by omega)
  · have e0 : True := trivial
    simp only [e1, e2, r1, r2, r3, r4, r5, bnd_s, bnd2_s, bnd3_s, bnd4_s, bnd5_s, bnd6_s, bnd7_s, bnx_l, bnx_r, Sum.elim_inl, Sum.elim_inr, th_w, up_0, upd_0, ↓reduceIte, eq_self, if_true, if_false, c10, c20, c30, sXX, sXA, sXS, sAX, sAA, sAS, sSX, sSA, sSS, Bool.false_eq_true]
    exact LN_i rfl (hS_th hs) (by omega)
  · exact absurd rfl ne
theorem lj1141 (hs : hS B I Y Γ D O M) (hB : B < 700000000) (hr : RD5 S xs a5) : LN B a5 j (fw_law_j1141 S xs I C Y Γ D O M ou od j a5) := by
  clear hr
  have e : fX_clock Γ = mA M 249 4 := (r_clock hs.1.1).trans m_4.symm
  unfold fw_law_j1141 fM_clock
  simp only [bnd_s, bnd2_s, bnd3_s, bnd4_s, bnd5_s, bnd6_s, bnd7_s, bnx_l, bnx_r, Sum.elim_inl, Sum.elim_inr, th_w, up_0, upd_0, ↓reduceIte, eq_self, if_true, if_false, c10, c20, c30, sXX, sXA, sXS, sAX, sAA, sAS, sSX, sSA, sSS, Bool.false_eq_true, told_e, e]
  exact LN_i rfl (hS_th hs) (by omega)
theorem lj1154 (hs : hS B I Y Γ D O M) (hB : B < 700000000) (hr : RD5 S xs a5) : LN B a5 j (fw_law_j1154 S xs I C Y Γ D O M ou od j a5) := by
  clear hr
  have e : fX_spotCount Γ = mA M 249 1 := (r_spots hs.1.1).trans m_1.symm
  unfold fw_law_j1154 fM_spotCount
  simp only [bnd_s, bnd2_s, bnd3_s, bnd4_s, bnd5_s, bnd6_s, bnd7_s, bnx_l, bnx_r, Sum.elim_inl, Sum.elim_inr, th_w, up_0, upd_0, ↓reduceIte, eq_self, if_true, if_false, c10, c20, c30, sXX, sXA, sXS, sAX, sAA, sAS, sSX, sSA, sSS, Bool.false_eq_true, told_e, e]
  exact LN_i rfl (hS_th hs) (by omega)
theorem lj1167 (hs : hS B I Y Γ D O M) (hB : B < 700000000) (hr : RD5 S xs a5) : LN B a5 j (fw_law_j1167 S xs I C Y Γ D O M ou od j a5) := by
  obtain ⟨x, y, z, u, w, ⟨x1, x2⟩, ⟨y1, y2⟩, ⟨z1, z2⟩, r1, r2, r3, r4, r5⟩ := hr
  unfold fw_law_j1167 fw_nameByte
  rcases q_nameByte hs.1 (by omega) x1 x2 y1 y2 with ⟨p, q, e1, e2, e3⟩ | ⟨q, e1, e2⟩ | ⟨q, e1, e2, ne⟩
  · subst e3
    simp only [e1, e2, r1, r2, r3, r4, r5, bnd_s, bnd2_s, bnd3_s, bnd4_s, bnd5_s, bnd6_s, bnd7_s, bnx_l, bnx_r, Sum.elim_inl, Sum.elim_inr, th_w, up_0, upd_0, ↓reduceIte, eq_self, if_true, if_false, c10, c20, c30, sXX, sXA, sXS, sAX, sAA, sAS, sSX, sSA, sSS, Bool.false_eq_true]
    exact LN_i rfl (hS_th hs) (by omega)
  · have e0 : True := trivial
    simp only [e1, e2, r1, r2, r3, r4, r5, bnd_s, bnd2_s, bnd3_s, bnd4_s, bnd5_s, bnd6_s, bnd7_s, bnx_l, bnx_r, Sum.elim_inl, Sum.elim_inr, th_w, up_0, upd_0, ↓reduceIte, eq_self, if_true, if_false, c10, c20, c30, sXX, sXA, sXS, sAX, sAA, sAS, sSX, sSA, sSS, Bool.false_eq_true]
    exact LN_i rfl (hS_th hs) (by omega)
  · exact absurd rfl ne
theorem lj1235 (hs : hS B I Y Γ D O M) (hB : B < 700000000) (hr : RD5 S xs a5) : LN B a5 j (fw_law_j1235 S xs I C Y Γ D O M ou od j a5) := by
  clear hr
  obtain ⟨⟨n, n1, n2, n3, n4, n5⟩, -, -⟩ := hs.2.2.2.1
  obtain ⟨v, e1, e2⟩ := q_findSpot hs.1 n5 n3 n4 n1 n2
  unfold fw_law_j1235
  simp only [e1, e2, bnd_s, bnd2_s, bnd3_s, bnd4_s, bnd5_s, bnd6_s, bnd7_s, bnx_l, bnx_r, Sum.elim_inl, Sum.elim_inr, th_w, up_0, upd_0, ↓reduceIte, eq_self, if_true, if_false, c10, c20, c30, sXX, sXA, sXS, sAX, sAA, sAS, sSX, sSA, sSS, Bool.false_eq_true]
  exact LN_i rfl (hS_th hs) (by omega)
theorem lj1248 (hs : hS B I Y Γ D O M) (hB : B < 700000000) (hr : RD5 S xs a5) : LN B a5 j (fw_law_j1248 S xs I C Y Γ D O M ou od j a5) := by
  obtain ⟨x, y, z, u, w, ⟨x1, x2⟩, ⟨y1, y2⟩, ⟨z1, z2⟩, r1, r2, r3, r4, r5⟩ := hr
  unfold fw_law_j1248 fw_isTraveller
  rcases q_isTraveller hs.1 (by omega) x1 x2  with ⟨p, q, e1, e2, e3⟩ | ⟨q, e1, e2⟩ | ⟨q, e1, e2, ne⟩
  · subst e3
    cases p with
    | false =>
      simp only [e1, e2, fw_isTraveller_j15, fw_law_j1302, r1, r2, r3, r4, r5, bnd_s, bnd2_s, bnd3_s, bnd4_s, bnd5_s, bnd6_s, bnd7_s, bnx_l, bnx_r, Sum.elim_inl, Sum.elim_inr, th_w, up_0, upd_0, ↓reduceIte, eq_self, if_true, if_false, c10, c20, c30, sXX, sXA, sXS, sAX, sAA, sAS, sSX, sSA, sSS, Bool.false_eq_true]
      exact LN_i rfl (hS_th hs) (by omega)
    | true =>
      simp only [e1, e2, fw_isTraveller_j15, fw_law_j1302, r1, r2, r3, r4, r5, bnd_s, bnd2_s, bnd3_s, bnd4_s, bnd5_s, bnd6_s, bnd7_s, bnx_l, bnx_r, Sum.elim_inl, Sum.elim_inr, th_w, up_0, upd_0, ↓reduceIte, eq_self, if_true, if_false, c10, c20, c30, sXX, sXA, sXS, sAX, sAA, sAS, sSX, sSA, sSS, Bool.false_eq_true]
      exact LN_i rfl (hS_th hs) (by omega)
  · have e0 : True := trivial
    simp only [e1, e2, r1, r2, r3, r4, r5, bnd_s, bnd2_s, bnd3_s, bnd4_s, bnd5_s, bnd6_s, bnd7_s, bnx_l, bnx_r, Sum.elim_inl, Sum.elim_inr, th_w, up_0, upd_0, ↓reduceIte, eq_self, if_true, if_false, c10, c20, c30, sXX, sXA, sXS, sAX, sAA, sAS, sSX, sSA, sSS, Bool.false_eq_true]
    exact LN_i rfl (hS_th hs) (by omega)
  · exact absurd rfl ne
theorem lj1311 (hs : hS B I Y Γ D O M) (hB : B < 700000000) (hr : RD5 S xs a5) : LN B a5 j (fw_law_j1311 S xs I C Y Γ D O M ou od j a5) := by
  obtain ⟨x, y, z, u, w, ⟨x1, x2⟩, ⟨y1, y2⟩, ⟨z1, z2⟩, r1, r2, r3, r4, r5⟩ := hr
  unfold fw_law_j1311 fw_bandOf
  rcases q_bandOf hs.1 (by omega) x1 x2  with ⟨p, q, e1, e2, e3⟩ | ⟨q, e1, e2⟩ | ⟨q, e1, e2, ne⟩
  · subst e3
    simp only [e1, e2, r1, r2, r3, r4, r5, bnd_s, bnd2_s, bnd3_s, bnd4_s, bnd5_s, bnd6_s, bnd7_s, bnx_l, bnx_r, Sum.elim_inl, Sum.elim_inr, th_w, up_0, upd_0, ↓reduceIte, eq_self, if_true, if_false, c10, c20, c30, sXX, sXA, sXS, sAX, sAA, sAS, sSX, sSA, sSS, Bool.false_eq_true]
    exact LN_i rfl (hS_th hs) (by omega)
  · have e0 : True := trivial
    simp only [e1, e2, r1, r2, r3, r4, r5, bnd_s, bnd2_s, bnd3_s, bnd4_s, bnd5_s, bnd6_s, bnd7_s, bnx_l, bnx_r, Sum.elim_inl, Sum.elim_inr, th_w, up_0, upd_0, ↓reduceIte, eq_self, if_true, if_false, c10, c20, c30, sXX, sXA, sXS, sAX, sAA, sAS, sSX, sSA, sSS, Bool.false_eq_true]
    exact LN_i rfl (hS_th hs) (by omega)
  · exact absurd rfl ne
theorem lj1367 (hs : hS B I Y Γ D O M) (hB : B < 700000000) (hr : RD5 S xs a5) : LN B a5 j (fw_law_j1367 S xs I C Y Γ D O M ou od j a5) := by
  obtain ⟨x, y, z, u, w, ⟨x1, x2⟩, ⟨y1, y2⟩, ⟨z1, z2⟩, r1, r2, r3, r4, r5⟩ := hr
  unfold fw_law_j1367 fw_meridianOf
  rcases q_meridianOf hs.1 (by omega) x1 x2  with ⟨p, q, e1, e2, e3⟩ | ⟨q, e1, e2⟩ | ⟨q, e1, e2, ne⟩
  · subst e3
    simp only [e1, e2, r1, r2, r3, r4, r5, bnd_s, bnd2_s, bnd3_s, bnd4_s, bnd5_s, bnd6_s, bnd7_s, bnx_l, bnx_r, Sum.elim_inl, Sum.elim_inr, th_w, up_0, upd_0, ↓reduceIte, eq_self, if_true, if_false, c10, c20, c30, sXX, sXA, sXS, sAX, sAA, sAS, sSX, sSA, sSS, Bool.false_eq_true]
    exact LN_i rfl (hS_th hs) (by omega)
  · have e0 : True := trivial
    simp only [e1, e2, r1, r2, r3, r4, r5, bnd_s, bnd2_s, bnd3_s, bnd4_s, bnd5_s, bnd6_s, bnd7_s, bnx_l, bnx_r, Sum.elim_inl, Sum.elim_inr, th_w, up_0, upd_0, ↓reduceIte, eq_self, if_true, if_false, c10, c20, c30, sXX, sXA, sXS, sAX, sAA, sAS, sSX, sSA, sSS, Bool.false_eq_true]
    exact LN_i rfl (hS_th hs) (by omega)
  · exact absurd rfl ne
theorem lj1423 (hs : hS B I Y Γ D O M) (hB : B < 700000000) (hr : RD5 S xs a5) : LN B a5 j (fw_law_j1423 S xs I C Y Γ D O M ou od j a5) := by
  obtain ⟨x, y, z, u, w, ⟨x1, x2⟩, ⟨y1, y2⟩, ⟨z1, z2⟩, r1, r2, r3, r4, r5⟩ := hr
  unfold fw_law_j1423 fw_dayOf
  rcases q_dayOf hs.1 (by omega) x1 x2  with ⟨p, q, e1, e2, e3⟩ | ⟨q, e1, e2⟩ | ⟨q, e1, e2, ne⟩
  · subst e3
    simp only [e1, e2, r1, r2, r3, r4, r5, bnd_s, bnd2_s, bnd3_s, bnd4_s, bnd5_s, bnd6_s, bnd7_s, bnx_l, bnx_r, Sum.elim_inl, Sum.elim_inr, th_w, up_0, upd_0, ↓reduceIte, eq_self, if_true, if_false, c10, c20, c30, sXX, sXA, sXS, sAX, sAA, sAS, sSX, sSA, sSS, Bool.false_eq_true]
    exact LN_i rfl (hS_th hs) (by omega)
  · have e0 : True := trivial
    simp only [e1, e2, r1, r2, r3, r4, r5, bnd_s, bnd2_s, bnd3_s, bnd4_s, bnd5_s, bnd6_s, bnd7_s, bnx_l, bnx_r, Sum.elim_inl, Sum.elim_inr, th_w, up_0, upd_0, ↓reduceIte, eq_self, if_true, if_false, c10, c20, c30, sXX, sXA, sXS, sAX, sAA, sAS, sSX, sSA, sSS, Bool.false_eq_true]
    exact LN_i rfl (hS_th hs) (by omega)
  · exact absurd rfl ne
theorem lj1479 (hs : hS B I Y Γ D O M) (hB : B < 700000000) (hr : RD5 S xs a5) : LN B a5 j (fw_law_j1479 S xs I C Y Γ D O M ou od j a5) := by
  obtain ⟨x, y, z, u, w, ⟨x1, x2⟩, ⟨y1, y2⟩, ⟨z1, z2⟩, r1, r2, r3, r4, r5⟩ := hr
  unfold fw_law_j1479 fw_degreesLeft
  rcases q_degreesLeft hs.1 (by omega) x1 x2  with ⟨p, q, e1, e2, e3⟩ | ⟨q, e1, e2⟩ | ⟨q, e1, e2, ne⟩
  · subst e3
    simp only [e1, e2, r1, r2, r3, r4, r5, bnd_s, bnd2_s, bnd3_s, bnd4_s, bnd5_s, bnd6_s, bnd7_s, bnx_l, bnx_r, Sum.elim_inl, Sum.elim_inr, th_w, up_0, upd_0, ↓reduceIte, eq_self, if_true, if_false, c10, c20, c30, sXX, sXA, sXS, sAX, sAA, sAS, sSX, sSA, sSS, Bool.false_eq_true]
    exact LN_i rfl (hS_th hs) (by omega)
  · have e0 : True := trivial
    simp only [e1, e2, r1, r2, r3, r4, r5, bnd_s, bnd2_s, bnd3_s, bnd4_s, bnd5_s, bnd6_s, bnd7_s, bnx_l, bnx_r, Sum.elim_inl, Sum.elim_inr, th_w, up_0, upd_0, ↓reduceIte, eq_self, if_true, if_false, c10, c20, c30, sXX, sXA, sXS, sAX, sAA, sAS, sSX, sSA, sSS, Bool.false_eq_true]
    exact LN_i rfl (hS_th hs) (by omega)
  · exact absurd rfl ne
theorem lj1535 (hs : hS B I Y Γ D O M) (hB : B < 700000000) (hr : RD5 S xs a5) : LN B a5 j (fw_law_j1535 S xs I C Y Γ D O M ou od j a5) := by
  obtain ⟨x, y, z, u, w, ⟨x1, x2⟩, ⟨y1, y2⟩, ⟨z1, z2⟩, r1, r2, r3, r4, r5⟩ := hr
  unfold fw_law_j1535 fw_crossingsOf
  rcases q_crossingsOf hs.1 (by omega) x1 x2  with ⟨p, q, e1, e2, e3⟩ | ⟨q, e1, e2⟩ | ⟨q, e1, e2, ne⟩
  · subst e3
    simp only [e1, e2, r1, r2, r3, r4, r5, bnd_s, bnd2_s, bnd3_s, bnd4_s, bnd5_s, bnd6_s, bnd7_s, bnx_l, bnx_r, Sum.elim_inl, Sum.elim_inr, th_w, up_0, upd_0, ↓reduceIte, eq_self, if_true, if_false, c10, c20, c30, sXX, sXA, sXS, sAX, sAA, sAS, sSX, sSA, sSS, Bool.false_eq_true]
    exact LN_i rfl (hS_th hs) (by omega)
  · have e0 : True := trivial
    simp only [e1, e2, r1, r2, r3, r4, r5, bnd_s, bnd2_s, bnd3_s, bnd4_s, bnd5_s, bnd6_s, bnd7_s, bnx_l, bnx_r, Sum.elim_inl, Sum.elim_inr, th_w, up_0, upd_0, ↓reduceIte, eq_self, if_true, if_false, c10, c20, c30, sXX, sXA, sXS, sAX, sAA, sAS, sSX, sSA, sSS, Bool.false_eq_true]
    exact LN_i rfl (hS_th hs) (by omega)
  · exact absurd rfl ne
theorem lj1591 (hs : hS B I Y Γ D O M) (hB : B < 700000000) (hr : RD5 S xs a5) : LN B a5 j (fw_law_j1591 S xs I C Y Γ D O M ou od j a5) := by
  clear hr
  obtain ⟨v, e1, e2⟩ := q_nextMidnight hs.1 (by omega)
  unfold fw_law_j1591
  simp only [e1, e2, bnd_s, bnd2_s, bnd3_s, bnd4_s, bnd5_s, bnd6_s, bnd7_s, bnx_l, bnx_r, Sum.elim_inl, Sum.elim_inr, th_w, up_0, upd_0, ↓reduceIte, eq_self, if_true, if_false, c10, c20, c30, sXX, sXA, sXS, sAX, sAA, sAS, sSX, sSA, sSS, Bool.false_eq_true]
  exact LN_i rfl (hS_th hs) (by omega)
theorem lj1604 (hs : hS B I Y Γ D O M) (hB : B < 700000000) (hr : RD5 S xs a5) : LN B a5 j (fw_law_j1604 S xs I C Y Γ D O M ou od j a5) := by
  clear hr
  have e : fX_labelCount Γ = mA M 249 2 := (r_labels hs.1.1).trans m_2.symm
  unfold fw_law_j1604 fM_labelCount
  simp only [bnd_s, bnd2_s, bnd3_s, bnd4_s, bnd5_s, bnd6_s, bnd7_s, bnx_l, bnx_r, Sum.elim_inl, Sum.elim_inr, th_w, up_0, upd_0, ↓reduceIte, eq_self, if_true, if_false, c10, c20, c30, sXX, sXA, sXS, sAX, sAA, sAS, sSX, sSA, sSS, Bool.false_eq_true, told_e, e]
  exact LN_i rfl (hS_th hs) (by omega)
end HJD

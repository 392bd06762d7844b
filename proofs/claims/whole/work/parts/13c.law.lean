/-! THE LAW'S CALLS (1) -/
section HJC
variable {S : Nat} {xs : Nat → Int32} {I : zI} {C : zC} {Y : Nat → Int32} {Γ : Nat → zG} {D : zD} {O : Nat → Int32} {M : zM} {ou : Nat → Int64} {od : Nat → UInt64} {j : Nat} {a5 : Int32} {B : Int}
theorem lj288 (hs : hS B I Y Γ D O M) (hB : B < 700000000) (hr : RD5 S xs a5) : LN B a5 j (fw_law_j288 S xs I C Y Γ D O M ou od j a5) := by
  obtain ⟨x, y, z, u, w, ⟨x1, x2⟩, ⟨y1, y2⟩, ⟨z1, z2⟩, r1, r2, r3, r4, r5⟩ := hr
  unfold fw_law_j288 fw_feed
  rcases o_feed (a1 := hI x) (a2 := hI y) (a3 := hI z) (a4 := hI u) (a5 := hI w) hs with ⟨p, I1, M1, e1, e2, e3, e4⟩ | ⟨e1, e2⟩
  · have e5 : fM_thrown M1 = 0 := e3
    simp only [e1, e2, e5, r1, r2, r3, r4, r5, bnd_s, bnd2_s, bnd3_s, bnd4_s, bnd5_s, bnd6_s, bnd7_s, bnx_l, bnx_r, Sum.elim_inl, Sum.elim_inr, th_w, up_0, upd_0, ↓reduceIte, eq_self, if_true, if_false, c10, c20, c30, sXX, sXA, sXS, sAX, sAA, sAS, sSX, sSA, sSS, Bool.false_eq_true]
    exact LN_i rfl (hS_le (by omega) e4) (by omega)
  · have e0 : True := trivial
    simp only [e1, e2, r1, r2, r3, r4, r5, bnd_s, bnd2_s, bnd3_s, bnd4_s, bnd5_s, bnd6_s, bnd7_s, bnx_l, bnx_r, Sum.elim_inl, Sum.elim_inr, th_w, up_0, upd_0, ↓reduceIte, eq_self, if_true, if_false, c10, c20, c30, sXX, sXA, sXS, sAX, sAA, sAS, sSX, sSA, sSS, Bool.false_eq_true]
    exact LN_i rfl (hS_th hs) (by omega)
theorem lj392 (hs : hS B I Y Γ D O M) (hB : B < 700000000) (hr : RD5 S xs a5) : LN B a5 j (fw_law_j392 S xs I C Y Γ D O M ou od j a5) := by
  obtain ⟨x, y, z, u, w, ⟨x1, x2⟩, ⟨y1, y2⟩, ⟨z1, z2⟩, r1, r2, r3, r4, r5⟩ := hr
  unfold fw_law_j392 fw_truncate
  rcases o_trunc hs x1 x2 with ⟨I1, M1, e1, e2, e3, e4⟩ | ⟨e1, e2⟩
  · have e5 : fM_thrown M1 = 0 := e3
    simp only [e1, e2, e5, r1, r2, r3, r4, r5, bnd_s, bnd2_s, bnd3_s, bnd4_s, bnd5_s, bnd6_s, bnd7_s, bnx_l, bnx_r, Sum.elim_inl, Sum.elim_inr, th_w, up_0, upd_0, ↓reduceIte, eq_self, if_true, if_false, c10, c20, c30, sXX, sXA, sXS, sAX, sAA, sAS, sSX, sSA, sSS, Bool.false_eq_true]
    exact LN_i rfl (hS_le (by omega) e4) (by omega)
  · have e0 : True := trivial
    simp only [e1, e2, r1, r2, r3, r4, r5, bnd_s, bnd2_s, bnd3_s, bnd4_s, bnd5_s, bnd6_s, bnd7_s, bnx_l, bnx_r, Sum.elim_inl, Sum.elim_inr, th_w, up_0, upd_0, ↓reduceIte, eq_self, if_true, if_false, c10, c20, c30, sXX, sXA, sXS, sAX, sAA, sAS, sSX, sSA, sSS, Bool.false_eq_true]
    exact LN_i rfl (hS_th hs) (by omega)
theorem lj448 (hs : hS B I Y Γ D O M) (hB : B < 700000000) (hr : RD5 S xs a5) : LN B a5 j (fw_law_j448 S xs I C Y Γ D O M ou od j a5) := by
  clear hr
  unfold fw_law_j448 fw_readText
  obtain ⟨I1, Γ1, M1, h⟩ := o_readText hs
  rcases h with ⟨p, Y1, e1, e2, e3, e4⟩ | ⟨e1, e2, e3, e4⟩
  · have e5 : fM_thrown M1 = 0 := e3
    simp only [e1, e2, e5, bnd_s, bnd2_s, bnd3_s, bnd4_s, bnd5_s, bnd6_s, bnd7_s, bnx_l, bnx_r, Sum.elim_inl, Sum.elim_inr, th_w, up_0, upd_0, ↓reduceIte, eq_self, if_true, if_false, c10, c20, c30, sXX, sXA, sXS, sAX, sAA, sAS, sSX, sSA, sSS, Bool.false_eq_true]
    exact LN_i rfl e4 (by omega)
  · have e5 : fM_thrown M1 = 1 := e3
    simp only [e1, e2, e5, bnd_s, bnd2_s, bnd3_s, bnd4_s, bnd5_s, bnd6_s, bnd7_s, bnx_l, bnx_r, Sum.elim_inl, Sum.elim_inr, th_w, up_0, upd_0, ↓reduceIte, eq_self, if_true, if_false, c10, c20, c30, sXX, sXA, sXS, sAX, sAA, sAS, sSX, sSA, sSS, Bool.false_eq_true]
    exact LN_i rfl e4 (by omega)
theorem lj492 (hs : hS B I Y Γ D O M) (hB : B < 700000000) (hr : RD5 S xs a5) : LN B a5 j (fw_law_j492 S xs I C Y Γ D O M ou od j a5) := by
  clear hr
  unfold fw_law_j492 fw_runScript
  obtain ⟨I1, C1, M1, h⟩ := o_runScript (C := C) hs (by omega)
  rcases h with ⟨p, Y1, Γ1, e1, e2, e3, e4⟩ | ⟨e1, e2, e3, e4⟩
  · have e5 : fM_thrown M1 = 0 := e3
    simp only [e1, e2, e5, bnd_s, bnd2_s, bnd3_s, bnd4_s, bnd5_s, bnd6_s, bnd7_s, bnx_l, bnx_r, Sum.elim_inl, Sum.elim_inr, th_w, up_0, upd_0, ↓reduceIte, eq_self, if_true, if_false, c10, c20, c30, sXX, sXA, sXS, sAX, sAA, sAS, sSX, sSA, sSS, Bool.false_eq_true]
    exact LN_i rfl e4 (by omega)
  · have e5 : fM_thrown M1 = 1 := e3
    simp only [e1, e2, e5, bnd_s, bnd2_s, bnd3_s, bnd4_s, bnd5_s, bnd6_s, bnd7_s, bnx_l, bnx_r, Sum.elim_inl, Sum.elim_inr, th_w, up_0, upd_0, ↓reduceIte, eq_self, if_true, if_false, c10, c20, c30, sXX, sXA, sXS, sAX, sAA, sAS, sSX, sSA, sSS, Bool.false_eq_true]
    exact LN_i rfl e4 (by omega)
theorem lj536 (hs : hS B I Y Γ D O M) (hB : B < 700000000) (hr : RD5 S xs a5) : LN B a5 j (fw_law_j536 S xs I C Y Γ D O M ou od j a5) := by
  clear hr
  have e : fX_errorCode I = mF (wmF M 0 0) 10 := by rw [mF_ne (by decide)]; exact hs.2.2.2.1.2.1
  unfold fw_law_j536 fM_errorCode
  simp only [bnd_s, bnd2_s, bnd3_s, bnd4_s, bnd5_s, bnd6_s, bnd7_s, bnx_l, bnx_r, Sum.elim_inl, Sum.elim_inr, th_w, up_0, upd_0, ↓reduceIte, eq_self, if_true, if_false, c10, c20, c30, sXX, sXA, sXS, sAX, sAA, sAS, sSX, sSA, sSS, Bool.false_eq_true, e]
  exact LN_i rfl (hS_th hs) (by omega)
theorem lj549 (hs : hS B I Y Γ D O M) (hB : B < 700000000) (hr : RD5 S xs a5) : LN B a5 j (fw_law_j549 S xs I C Y Γ D O M ou od j a5) := by
  clear hr
  have e : fX_errorOffset I = mF (wmF M 0 0) 11 := by rw [mF_ne (by decide)]; exact hs.2.2.2.1.2.2
  unfold fw_law_j549 fM_errorOffset
  simp only [bnd_s, bnd2_s, bnd3_s, bnd4_s, bnd5_s, bnd6_s, bnd7_s, bnx_l, bnx_r, Sum.elim_inl, Sum.elim_inr, th_w, up_0, upd_0, ↓reduceIte, eq_self, if_true, if_false, c10, c20, c30, sXX, sXA, sXS, sAX, sAA, sAS, sSX, sSA, sSS, Bool.false_eq_true, e]
  exact LN_i rfl (hS_th hs) (by omega)
theorem lj562 (hs : hS B I Y Γ D O M) (hB : B < 700000000) (hr : RD5 S xs a5) : LN B a5 j (fw_law_j562 S xs I C Y Γ D O M ou od j a5) := by
  clear hr
  have e : fX_goreCount Γ = mA M 249 0 := (r_gores hs.1.1).trans m_0.symm
  unfold fw_law_j562 fM_goreCount
  simp only [bnd_s, bnd2_s, bnd3_s, bnd4_s, bnd5_s, bnd6_s, bnd7_s, bnx_l, bnx_r, Sum.elim_inl, Sum.elim_inr, th_w, up_0, upd_0, ↓reduceIte, eq_self, if_true, if_false, c10, c20, c30, sXX, sXA, sXS, sAX, sAA, sAS, sSX, sSA, sSS, Bool.false_eq_true, told_e, e]
  exact LN_i rfl (hS_th hs) (by omega)
theorem lj575 (hs : hS B I Y Γ D O M) (hB : B < 700000000) (hr : RD5 S xs a5) : LN B a5 j (fw_law_j575 S xs I C Y Γ D O M ou od j a5) := by
  obtain ⟨x, y, z, u, w, ⟨x1, x2⟩, ⟨y1, y2⟩, ⟨z1, z2⟩, r1, r2, r3, r4, r5⟩ := hr
  unfold fw_law_j575 fw_widthOf
  rcases q_widthOf hs.1 (by omega) x1 x2  with ⟨p, q, e1, e2, e3⟩ | ⟨q, e1, e2⟩ | ⟨q, e1, e2, ne⟩
  · subst e3
    simp only [e1, e2, r1, r2, r3, r4, r5, bnd_s, bnd2_s, bnd3_s, bnd4_s, bnd5_s, bnd6_s, bnd7_s, bnx_l, bnx_r, Sum.elim_inl, Sum.elim_inr, th_w, up_0, upd_0, ↓reduceIte, eq_self, if_true, if_false, c10, c20, c30, sXX, sXA, sXS, sAX, sAA, sAS, sSX, sSA, sSS, Bool.false_eq_true]
    exact LN_i rfl (hS_th hs) (by omega)
  · have e0 : True := trivial
    simp only [e1, e2, r1, r2, r3, r4, r5, bnd_s, bnd2_s, bnd3_s, bnd4_s, bnd5_s, bnd6_s, bnd7_s, bnx_l, bnx_r, Sum.elim_inl, Sum.elim_inr, th_w, up_0, upd_0, ↓reduceIte, eq_self, if_true, if_false, c10, c20, c30, sXX, sXA, sXS, sAX, sAA, sAS, sSX, sSA, sSS, Bool.false_eq_true]
    exact LN_i rfl (hS_th hs) (by omega)
  · exact absurd rfl ne
theorem lj631 (hs : hS B I Y Γ D O M) (hB : B < 700000000) (hr : RD5 S xs a5) : LN B a5 j (fw_law_j631 S xs I C Y Γ D O M ou od j a5) := by
  obtain ⟨x, y, z, u, w, ⟨x1, x2⟩, ⟨y1, y2⟩, ⟨z1, z2⟩, r1, r2, r3, r4, r5⟩ := hr
  unfold fw_law_j631 fw_beginOf
  rcases q_beginOf hs.1 (by omega) x1 x2  with ⟨p, q, e1, e2, e3⟩ | ⟨q, e1, e2⟩ | ⟨q, e1, e2, ne⟩
  · subst e3
    simp only [e1, e2, r1, r2, r3, r4, r5, bnd_s, bnd2_s, bnd3_s, bnd4_s, bnd5_s, bnd6_s, bnd7_s, bnx_l, bnx_r, Sum.elim_inl, Sum.elim_inr, th_w, up_0, upd_0, ↓reduceIte, eq_self, if_true, if_false, c10, c20, c30, sXX, sXA, sXS, sAX, sAA, sAS, sSX, sSA, sSS, Bool.false_eq_true]
    exact LN_i rfl (hS_th hs) (by omega)
  · have e0 : True := trivial
    simp only [e1, e2, r1, r2, r3, r4, r5, bnd_s, bnd2_s, bnd3_s, bnd4_s, bnd5_s, bnd6_s, bnd7_s, bnx_l, bnx_r, Sum.elim_inl, Sum.elim_inr, th_w, up_0, upd_0, ↓reduceIte, eq_self, if_true, if_false, c10, c20, c30, sXX, sXA, sXS, sAX, sAA, sAS, sSX, sSA, sSS, Bool.false_eq_true]
    exact LN_i rfl (hS_th hs) (by omega)
  · exact absurd rfl ne
theorem lj687 (hs : hS B I Y Γ D O M) (hB : B < 700000000) (hr : RD5 S xs a5) : LN B a5 j (fw_law_j687 S xs I C Y Γ D O M ou od j a5) := by
  obtain ⟨x, y, z, u, w, ⟨x1, x2⟩, ⟨y1, y2⟩, ⟨z1, z2⟩, r1, r2, r3, r4, r5⟩ := hr
  unfold fw_law_j687 fw_goreAt
  rcases q_goreAt hs.1 (by omega) x1 x2  with ⟨p, q, e1, e2, e3⟩ | ⟨q, e1, e2⟩ | ⟨q, e1, e2, ne⟩
  · subst e3
    simp only [e1, e2, r1, r2, r3, r4, r5, bnd_s, bnd2_s, bnd3_s, bnd4_s, bnd5_s, bnd6_s, bnd7_s, bnx_l, bnx_r, Sum.elim_inl, Sum.elim_inr, th_w, up_0, upd_0, ↓reduceIte, eq_self, if_true, if_false, c10, c20, c30, sXX, sXA, sXS, sAX, sAA, sAS, sSX, sSA, sSS, Bool.false_eq_true]
    exact LN_i rfl (hS_th hs) (by omega)
  · have e0 : True := trivial
    simp only [e1, e2, r1, r2, r3, r4, r5, bnd_s, bnd2_s, bnd3_s, bnd4_s, bnd5_s, bnd6_s, bnd7_s, bnx_l, bnx_r, Sum.elim_inl, Sum.elim_inr, th_w, up_0, upd_0, ↓reduceIte, eq_self, if_true, if_false, c10, c20, c30, sXX, sXA, sXS, sAX, sAA, sAS, sSX, sSA, sSS, Bool.false_eq_true]
    exact LN_i rfl (hS_th hs) (by omega)
  · exact absurd rfl ne
theorem lj743 (hs : hS B I Y Γ D O M) (hB : B < 700000000) (hr : RD5 S xs a5) : LN B a5 j (fw_law_j743 S xs I C Y Γ D O M ou od j a5) := by
  obtain ⟨x, y, z, u, w, ⟨x1, x2⟩, ⟨y1, y2⟩, ⟨z1, z2⟩, r1, r2, r3, r4, r5⟩ := hr
  unfold fw_law_j743 fw_stitchesOf
  rcases q_stitchesOf hs.1 (by omega) x1 x2  with ⟨p, q, e1, e2, e3⟩ | ⟨q, e1, e2⟩ | ⟨q, e1, e2, ne⟩
  · subst e3
    simp only [e1, e2, r1, r2, r3, r4, r5, bnd_s, bnd2_s, bnd3_s, bnd4_s, bnd5_s, bnd6_s, bnd7_s, bnx_l, bnx_r, Sum.elim_inl, Sum.elim_inr, th_w, up_0, upd_0, ↓reduceIte, eq_self, if_true, if_false, c10, c20, c30, sXX, sXA, sXS, sAX, sAA, sAS, sSX, sSA, sSS, Bool.false_eq_true]
    exact LN_i rfl (hS_th hs) (by omega)
  · have e0 : True := trivial
    simp only [e1, e2, r1, r2, r3, r4, r5, bnd_s, bnd2_s, bnd3_s, bnd4_s, bnd5_s, bnd6_s, bnd7_s, bnx_l, bnx_r, Sum.elim_inl, Sum.elim_inr, th_w, up_0, upd_0, ↓reduceIte, eq_self, if_true, if_false, c10, c20, c30, sXX, sXA, sXS, sAX, sAA, sAS, sSX, sSA, sSS, Bool.false_eq_true]
    exact LN_i rfl (hS_th hs) (by omega)
  · exact absurd rfl ne
theorem lj799 (hs : hS B I Y Γ D O M) (hB : B < 700000000) (hr : RD5 S xs a5) : LN B a5 j (fw_law_j799 S xs I C Y Γ D O M ou od j a5) := by
  obtain ⟨x, y, z, u, w, ⟨x1, x2⟩, ⟨y1, y2⟩, ⟨z1, z2⟩, r1, r2, r3, r4, r5⟩ := hr
  unfold fw_law_j799 fw_strainOf
  rcases q_strainOf hs.1 (by omega) x1 x2  with ⟨p, q, e1, e2, e3⟩ | ⟨q, e1, e2⟩ | ⟨q, e1, e2, ne⟩
  · subst e3
    simp only [e1, e2, r1, r2, r3, r4, r5, bnd_s, bnd2_s, bnd3_s, bnd4_s, bnd5_s, bnd6_s, bnd7_s, bnx_l, bnx_r, Sum.elim_inl, Sum.elim_inr, th_w, up_0, upd_0, ↓reduceIte, eq_self, if_true, if_false, c10, c20, c30, sXX, sXA, sXS, sAX, sAA, sAS, sSX, sSA, sSS, Bool.false_eq_true]
    exact LN_i rfl (hS_th hs) (by omega)
  · have e0 : True := trivial
    simp only [e1, e2, r1, r2, r3, r4, r5, bnd_s, bnd2_s, bnd3_s, bnd4_s, bnd5_s, bnd6_s, bnd7_s, bnx_l, bnx_r, Sum.elim_inl, Sum.elim_inr, th_w, up_0, upd_0, ↓reduceIte, eq_self, if_true, if_false, c10, c20, c30, sXX, sXA, sXS, sAX, sAA, sAS, sSX, sSA, sSS, Bool.false_eq_true]
    exact LN_i rfl (hS_th hs) (by omega)
  · exact absurd rfl ne
theorem lj855 (hs : hS B I Y Γ D O M) (hB : B < 700000000) (hr : RD5 S xs a5) : LN B a5 j (fw_law_j855 S xs I C Y Γ D O M ou od j a5) := by
  clear hr
  obtain ⟨v, e1, e2⟩ := q_tornSeams hs.1
  unfold fw_law_j855
  simp only [e1, e2, bnd_s, bnd2_s, bnd3_s, bnd4_s, bnd5_s, bnd6_s, bnd7_s, bnx_l, bnx_r, Sum.elim_inl, Sum.elim_inr, th_w, up_0, upd_0, ↓reduceIte, eq_self, if_true, if_false, c10, c20, c30, sXX, sXA, sXS, sAX, sAA, sAS, sSX, sSA, sSS, Bool.false_eq_true]
  exact LN_i rfl (hS_th hs) (by omega)
theorem lj868 (hs : hS B I Y Γ D O M) (hB : B < 700000000) (hr : RD5 S xs a5) : LN B a5 j (fw_law_j868 S xs I C Y Γ D O M ou od j a5) := by
  clear hr
  have e : fX_thread Γ = mA M 249 3 := (r_thread hs.1.1).trans m_3.symm
  unfold fw_law_j868 fM_thread
  simp only [bnd_s, bnd2_s, bnd3_s, bnd4_s, bnd5_s, bnd6_s, bnd7_s, bnx_l, bnx_r, Sum.elim_inl, Sum.elim_inr, th_w, up_0, upd_0, ↓reduceIte, eq_self, if_true, if_false, c10, c20, c30, sXX, sXA, sXS, sAX, sAA, sAS, sSX, sSA, sSS, Bool.false_eq_true, told_e, e]
  exact LN_i rfl (hS_th hs) (by omega)
theorem lj881 (hs : hS B I Y Γ D O M) (hB : B < 700000000) (hr : RD5 S xs a5) : LN B a5 j (fw_law_j881 S xs I C Y Γ D O M ou od j a5) := by
  obtain ⟨x, y, z, u, w, ⟨x1, x2⟩, ⟨y1, y2⟩, ⟨z1, z2⟩, r1, r2, r3, r4, r5⟩ := hr
  unfold fw_law_j881 fw_hemAt
  rcases q_hemAt hs.1 (by omega) x1 x2  with ⟨p, q, e1, e2, e3⟩ | ⟨q, e1, e2⟩ | ⟨q, e1, e2, ne⟩
  · subst e3
    simp only [e1, e2, r1, r2, r3, r4, r5, bnd_s, bnd2_s, bnd3_s, bnd4_s, bnd5_s, bnd6_s, bnd7_s, bnx_l, bnx_r, Sum.elim_inl, Sum.elim_inr, th_w, up_0, upd_0, ↓reduceIte, eq_self, if_true, if_false, c10, c20, c30, sXX, sXA, sXS, sAX, sAA, sAS, sSX, sSA, sSS, Bool.false_eq_true]
    exact LN_i rfl (hS_th hs) (by omega)
  · have e0 : True := trivial
    simp only [e1, e2, r1, r2, r3, r4, r5, bnd_s, bnd2_s, bnd3_s, bnd4_s, bnd5_s, bnd6_s, bnd7_s, bnx_l, bnx_r, Sum.elim_inl, Sum.elim_inr, th_w, up_0, upd_0, ↓reduceIte, eq_self, if_true, if_false, c10, c20, c30, sXX, sXA, sXS, sAX, sAA, sAS, sSX, sSA, sSS, Bool.false_eq_true]
    exact LN_i rfl (hS_th hs) (by omega)
  · exact absurd rfl ne
end HJC

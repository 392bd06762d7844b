/-! THE LAW'S CALLS (4) -/
section HJF
variable {S : Nat} {xs : Nat → Int32} {I : zI} {C : zC} {Y : Nat → Int32} {Γ : Nat → zG} {D : zD} {O : Nat → Int32} {M : zM} {ou : Nat → Int64} {od : Nat → UInt64} {j : Nat} {a5 : Int32} {B : Int}
theorem lj2512 (hs : hS B I Y Γ D O M) (hB : B < 700000000) (hr : RD5 S xs a5) : LN B a5 j (fw_law_j2512 S xs I C Y Γ D O M ou od j a5) := by
  obtain ⟨x, y, z, u, w, ⟨x1, x2⟩, ⟨y1, y2⟩, ⟨z1, z2⟩, r1, r2, r3, r4, r5⟩ := hr
  unfold fw_law_j2512 fw_addLabel
  rcases o_label hs (by omega) x1 x2 y1 y2 with ⟨p, I1, Y1, Γ1, M1, e1, e2, e3, e4⟩ | ⟨e1, e2⟩ | ⟨e1, e2, ne⟩
  · have e5 : fM_thrown M1 = 0 := e3
    simp only [e1, e2, e5, r1, r2, r3, r4, r5, bnd_s, bnd2_s, bnd3_s, bnd4_s, bnd5_s, bnd6_s, bnd7_s, bnx_l, bnx_r, Sum.elim_inl, Sum.elim_inr, th_w, up_0, upd_0, ↓reduceIte, eq_self, if_true, if_false, c10, c20, c30, sXX, sXA, sXS, sAX, sAA, sAS, sSX, sSA, sSS, Bool.false_eq_true]
    exact LN_i rfl (hS_le (by omega) e4) (by omega)
  · have e0 : True := trivial
    simp only [e1, e2, r1, r2, r3, r4, r5, bnd_s, bnd2_s, bnd3_s, bnd4_s, bnd5_s, bnd6_s, bnd7_s, bnx_l, bnx_r, Sum.elim_inl, Sum.elim_inr, th_w, up_0, upd_0, ↓reduceIte, eq_self, if_true, if_false, c10, c20, c30, sXX, sXA, sXS, sAX, sAA, sAS, sSX, sSA, sSS, Bool.false_eq_true]
    exact LN_i rfl (hS_th hs) (by omega)
  · have e0 : True := trivial
    simp only [e1, e2, r1, r2, r3, r4, r5, bnd_s, bnd2_s, bnd3_s, bnd4_s, bnd5_s, bnd6_s, bnd7_s, bnx_l, bnx_r, Sum.elim_inl, Sum.elim_inr, th_w, up_0, upd_0, ↓reduceIte, eq_self, if_true, if_false, c10, c20, c30, sXX, sXA, sXS, sAX, sAA, sAS, sSX, sSA, sSS, Bool.false_eq_true]
    exact LN_i rfl (hS_th hs) (by omega)
theorem lj2580 (hs : hS B I Y Γ D O M) (hB : B < 700000000) (hr : RD5 S xs a5) : LN B a5 j (fw_law_j2580 S xs I C Y Γ D O M ou od j a5) := by
  obtain ⟨x, y, z, u, w, ⟨x1, x2⟩, ⟨y1, y2⟩, ⟨z1, z2⟩, r1, r2, r3, r4, r5⟩ := hr
  unfold fw_law_j2580 fw_moveHem
  rcases o_moveHem hs (by omega) x1 x2 y1 y2 with ⟨p, Y1, Γ1, M1, e1, e2, e3, e4⟩ | ⟨e1, e2⟩ | ⟨e1, e2, ne⟩ | ⟨e1, e2, ne⟩
  · have e5 : fM_thrown M1 = 0 := e3
    simp only [e1, e2, e5, r1, r2, r3, r4, r5, bnd_s, bnd2_s, bnd3_s, bnd4_s, bnd5_s, bnd6_s, bnd7_s, bnx_l, bnx_r, Sum.elim_inl, Sum.elim_inr, th_w, up_0, upd_0, ↓reduceIte, eq_self, if_true, if_false, c10, c20, c30, sXX, sXA, sXS, sAX, sAA, sAS, sSX, sSA, sSS, Bool.false_eq_true]
    exact LN_i rfl (hS_le (by omega) e4) (by omega)
  · have e0 : True := trivial
    simp only [e1, e2, r1, r2, r3, r4, r5, bnd_s, bnd2_s, bnd3_s, bnd4_s, bnd5_s, bnd6_s, bnd7_s, bnx_l, bnx_r, Sum.elim_inl, Sum.elim_inr, th_w, up_0, upd_0, ↓reduceIte, eq_self, if_true, if_false, c10, c20, c30, sXX, sXA, sXS, sAX, sAA, sAS, sSX, sSA, sSS, Bool.false_eq_true]
    exact LN_i rfl (hS_th hs) (by omega)
  · have e0 : True := trivial
    simp only [e1, e2, r1, r2, r3, r4, r5, bnd_s, bnd2_s, bnd3_s, bnd4_s, bnd5_s, bnd6_s, bnd7_s, bnx_l, bnx_r, Sum.elim_inl, Sum.elim_inr, th_w, up_0, upd_0, ↓reduceIte, eq_self, if_true, if_false, c10, c20, c30, sXX, sXA, sXS, sAX, sAA, sAS, sSX, sSA, sSS, Bool.false_eq_true]
    exact LN_i rfl (hS_th hs) (by omega)
  · exact absurd rfl ne
theorem lj2648 (hs : hS B I Y Γ D O M) (hB : B < 700000000) (hr : RD5 S xs a5) : LN B a5 j (fw_law_j2648 S xs I C Y Γ D O M ou od j a5) := by
  obtain ⟨x, y, z, u, w, ⟨x1, x2⟩, ⟨y1, y2⟩, ⟨z1, z2⟩, r1, r2, r3, r4, r5⟩ := hr
  unfold fw_law_j2648 fw_sew
  rcases o_sew hs (by omega) x1 x2 y1 y2 with ⟨p, Y1, Γ1, M1, e1, e2, e3, e4⟩ | ⟨e1, e2⟩ | ⟨e1, e2, ne⟩ | ⟨e1, e2, ne⟩
  · have e5 : fM_thrown M1 = 0 := e3
    simp only [e1, e2, e5, r1, r2, r3, r4, r5, bnd_s, bnd2_s, bnd3_s, bnd4_s, bnd5_s, bnd6_s, bnd7_s, bnx_l, bnx_r, Sum.elim_inl, Sum.elim_inr, th_w, up_0, upd_0, ↓reduceIte, eq_self, if_true, if_false, c10, c20, c30, sXX, sXA, sXS, sAX, sAA, sAS, sSX, sSA, sSS, Bool.false_eq_true]
    exact LN_i rfl (hS_le (by omega) e4) (by omega)
  · have e0 : True := trivial
    simp only [e1, e2, r1, r2, r3, r4, r5, bnd_s, bnd2_s, bnd3_s, bnd4_s, bnd5_s, bnd6_s, bnd7_s, bnx_l, bnx_r, Sum.elim_inl, Sum.elim_inr, th_w, up_0, upd_0, ↓reduceIte, eq_self, if_true, if_false, c10, c20, c30, sXX, sXA, sXS, sAX, sAA, sAS, sSX, sSA, sSS, Bool.false_eq_true]
    exact LN_i rfl (hS_th hs) (by omega)
  · have e0 : True := trivial
    simp only [e1, e2, r1, r2, r3, r4, r5, bnd_s, bnd2_s, bnd3_s, bnd4_s, bnd5_s, bnd6_s, bnd7_s, bnx_l, bnx_r, Sum.elim_inl, Sum.elim_inr, th_w, up_0, upd_0, ↓reduceIte, eq_self, if_true, if_false, c10, c20, c30, sXX, sXA, sXS, sAX, sAA, sAS, sSX, sSA, sSS, Bool.false_eq_true]
    exact LN_i rfl (hS_th hs) (by omega)
  · have e0 : True := trivial
    simp only [e1, e2, r1, r2, r3, r4, r5, bnd_s, bnd2_s, bnd3_s, bnd4_s, bnd5_s, bnd6_s, bnd7_s, bnx_l, bnx_r, Sum.elim_inl, Sum.elim_inr, th_w, up_0, upd_0, ↓reduceIte, eq_self, if_true, if_false, c10, c20, c30, sXX, sXA, sXS, sAX, sAA, sAS, sSX, sSA, sSS, Bool.false_eq_true]
    exact LN_i rfl (hS_th hs) (by omega)
theorem lj2716 (hs : hS B I Y Γ D O M) (hB : B < 700000000) (hr : RD5 S xs a5) : LN B a5 j (fw_law_j2716 S xs I C Y Γ D O M ou od j a5) := by
  obtain ⟨x, y, z, u, w, ⟨x1, x2⟩, ⟨y1, y2⟩, ⟨z1, z2⟩, r1, r2, r3, r4, r5⟩ := hr
  unfold fw_law_j2716 fw_rip
  rcases o_rip hs (by omega) x1 x2 with ⟨p, Y1, Γ1, M1, e1, e2, e3, e4⟩ | ⟨e1, e2⟩ | ⟨e1, e2, ne⟩ | ⟨e1, e2, ne⟩
  · have e5 : fM_thrown M1 = 0 := e3
    simp only [e1, e2, e5, r1, r2, r3, r4, r5, bnd_s, bnd2_s, bnd3_s, bnd4_s, bnd5_s, bnd6_s, bnd7_s, bnx_l, bnx_r, Sum.elim_inl, Sum.elim_inr, th_w, up_0, upd_0, ↓reduceIte, eq_self, if_true, if_false, c10, c20, c30, sXX, sXA, sXS, sAX, sAA, sAS, sSX, sSA, sSS, Bool.false_eq_true]
    exact LN_i rfl (hS_le (by omega) e4) (by omega)
  · have e0 : True := trivial
    simp only [e1, e2, r1, r2, r3, r4, r5, bnd_s, bnd2_s, bnd3_s, bnd4_s, bnd5_s, bnd6_s, bnd7_s, bnx_l, bnx_r, Sum.elim_inl, Sum.elim_inr, th_w, up_0, upd_0, ↓reduceIte, eq_self, if_true, if_false, c10, c20, c30, sXX, sXA, sXS, sAX, sAA, sAS, sSX, sSA, sSS, Bool.false_eq_true]
    exact LN_i rfl (hS_th hs) (by omega)
  · have e0 : True := trivial
    simp only [e1, e2, r1, r2, r3, r4, r5, bnd_s, bnd2_s, bnd3_s, bnd4_s, bnd5_s, bnd6_s, bnd7_s, bnx_l, bnx_r, Sum.elim_inl, Sum.elim_inr, th_w, up_0, upd_0, ↓reduceIte, eq_self, if_true, if_false, c10, c20, c30, sXX, sXA, sXS, sAX, sAA, sAS, sSX, sSA, sSS, Bool.false_eq_true]
    exact LN_i rfl (hS_th hs) (by omega)
  · exact absurd rfl ne
theorem lj2772 (hs : hS B I Y Γ D O M) (hB : B < 700000000) (hr : RD5 S xs a5) : LN B a5 j (fw_law_j2772 S xs I C Y Γ D O M ou od j a5) := by
  obtain ⟨x, y, z, u, w, ⟨x1, x2⟩, ⟨y1, y2⟩, ⟨z1, z2⟩, r1, r2, r3, r4, r5⟩ := hr
  unfold fw_law_j2772 fw_step
  rcases o_step hs (by omega) x1 x2 y1 y2 with ⟨p, Y1, Γ1, M1, e1, e2, e3, e4⟩ | ⟨e1, e2⟩ | ⟨e1, e2, ne⟩ | ⟨e1, e2, ne⟩
  · have e5 : fM_thrown M1 = 0 := e3
    simp only [e1, e2, e5, r1, r2, r3, r4, r5, bnd_s, bnd2_s, bnd3_s, bnd4_s, bnd5_s, bnd6_s, bnd7_s, bnx_l, bnx_r, Sum.elim_inl, Sum.elim_inr, th_w, up_0, upd_0, ↓reduceIte, eq_self, if_true, if_false, c10, c20, c30, sXX, sXA, sXS, sAX, sAA, sAS, sSX, sSA, sSS, Bool.false_eq_true]
    exact LN_i rfl (hS_le (by omega) e4) (by omega)
  · have e0 : True := trivial
    simp only [e1, e2, r1, r2, r3, r4, r5, bnd_s, bnd2_s, bnd3_s, bnd4_s, bnd5_s, bnd6_s, bnd7_s, bnx_l, bnx_r, Sum.elim_inl, Sum.elim_inr, th_w, up_0, upd_0, ↓reduceIte, eq_self, if_true, if_false, c10, c20, c30, sXX, sXA, sXS, sAX, sAA, sAS, sSX, sSA, sSS, Bool.false_eq_true]
    exact LN_i rfl (hS_th hs) (by omega)
  · have e0 : True := trivial
    simp only [e1, e2, r1, r2, r3, r4, r5, bnd_s, bnd2_s, bnd3_s, bnd4_s, bnd5_s, bnd6_s, bnd7_s, bnx_l, bnx_r, Sum.elim_inl, Sum.elim_inr, th_w, up_0, upd_0, ↓reduceIte, eq_self, if_true, if_false, c10, c20, c30, sXX, sXA, sXS, sAX, sAA, sAS, sSX, sSA, sSS, Bool.false_eq_true]
    exact LN_i rfl (hS_th hs) (by omega)
  · have e0 : True := trivial
    simp only [e1, e2, r1, r2, r3, r4, r5, bnd_s, bnd2_s, bnd3_s, bnd4_s, bnd5_s, bnd6_s, bnd7_s, bnx_l, bnx_r, Sum.elim_inl, Sum.elim_inr, th_w, up_0, upd_0, ↓reduceIte, eq_self, if_true, if_false, c10, c20, c30, sXX, sXA, sXS, sAX, sAA, sAS, sSX, sSA, sSS, Bool.false_eq_true]
    exact LN_i rfl (hS_th hs) (by omega)
theorem lj2840 (hs : hS B I Y Γ D O M) (hB : B < 700000000) (hr : RD5 S xs a5) : LN B a5 j (fw_law_j2840 S xs I C Y Γ D O M ou od j a5) := by
  obtain ⟨x, y, z, u, w, ⟨x1, x2⟩, ⟨y1, y2⟩, ⟨z1, z2⟩, r1, r2, r3, r4, r5⟩ := hr
  unfold fw_law_j2840 fw_walk
  rcases o_walk hs (by omega) x1 x2 y1 y2 z1 z2 with ⟨p, Y1, Γ1, M1, e1, e2, e3, e4⟩ | ⟨e1, e2⟩ | ⟨e1, e2, ne⟩ | ⟨e1, e2, ne⟩
  · have e5 : fM_thrown M1 = 0 := e3
    simp only [e1, e2, e5, r1, r2, r3, r4, r5, bnd_s, bnd2_s, bnd3_s, bnd4_s, bnd5_s, bnd6_s, bnd7_s, bnx_l, bnx_r, Sum.elim_inl, Sum.elim_inr, th_w, up_0, upd_0, ↓reduceIte, eq_self, if_true, if_false, c10, c20, c30, sXX, sXA, sXS, sAX, sAA, sAS, sSX, sSA, sSS, Bool.false_eq_true]
    exact LN_i rfl (hS_le (by omega) e4) (by omega)
  · have e0 : True := trivial
    simp only [e1, e2, r1, r2, r3, r4, r5, bnd_s, bnd2_s, bnd3_s, bnd4_s, bnd5_s, bnd6_s, bnd7_s, bnx_l, bnx_r, Sum.elim_inl, Sum.elim_inr, th_w, up_0, upd_0, ↓reduceIte, eq_self, if_true, if_false, c10, c20, c30, sXX, sXA, sXS, sAX, sAA, sAS, sSX, sSA, sSS, Bool.false_eq_true]
    exact LN_i rfl (hS_th hs) (by omega)
  · have e0 : True := trivial
    simp only [e1, e2, r1, r2, r3, r4, r5, bnd_s, bnd2_s, bnd3_s, bnd4_s, bnd5_s, bnd6_s, bnd7_s, bnx_l, bnx_r, Sum.elim_inl, Sum.elim_inr, th_w, up_0, upd_0, ↓reduceIte, eq_self, if_true, if_false, c10, c20, c30, sXX, sXA, sXS, sAX, sAA, sAS, sSX, sSA, sSS, Bool.false_eq_true]
    exact LN_i rfl (hS_th hs) (by omega)
  · have e0 : True := trivial
    simp only [e1, e2, r1, r2, r3, r4, r5, bnd_s, bnd2_s, bnd3_s, bnd4_s, bnd5_s, bnd6_s, bnd7_s, bnx_l, bnx_r, Sum.elim_inl, Sum.elim_inr, th_w, up_0, upd_0, ↓reduceIte, eq_self, if_true, if_false, c10, c20, c30, sXX, sXA, sXS, sAX, sAA, sAS, sSX, sSA, sSS, Bool.false_eq_true]
    exact LN_i rfl (hS_th hs) (by omega)
theorem lj2920 (hs : hS B I Y Γ D O M) (hB : B < 700000000) (hr : RD5 S xs a5) : LN B a5 j (fw_law_j2920 S xs I C Y Γ D O M ou od j a5) := by
  obtain ⟨x, y, z, u, w, ⟨x1, x2⟩, ⟨y1, y2⟩, ⟨z1, z2⟩, r1, r2, r3, r4, r5⟩ := hr
  unfold fw_law_j2920 fw_pass
  rcases o_pass hs (by omega) x1 x2 with ⟨p, Y1, Γ1, M1, e1, e2, e3, e4⟩ | ⟨e1, e2⟩ | ⟨e1, e2, ne⟩ | ⟨e1, e2, ne⟩
  · have e5 : fM_thrown M1 = 0 := e3
    simp only [e1, e2, e5, r1, r2, r3, r4, r5, bnd_s, bnd2_s, bnd3_s, bnd4_s, bnd5_s, bnd6_s, bnd7_s, bnx_l, bnx_r, Sum.elim_inl, Sum.elim_inr, th_w, up_0, upd_0, ↓reduceIte, eq_self, if_true, if_false, c10, c20, c30, sXX, sXA, sXS, sAX, sAA, sAS, sSX, sSA, sSS, Bool.false_eq_true]
    exact LN_i rfl (hS_le (by omega) e4) (by omega)
  · have e0 : True := trivial
    simp only [e1, e2, r1, r2, r3, r4, r5, bnd_s, bnd2_s, bnd3_s, bnd4_s, bnd5_s, bnd6_s, bnd7_s, bnx_l, bnx_r, Sum.elim_inl, Sum.elim_inr, th_w, up_0, upd_0, ↓reduceIte, eq_self, if_true, if_false, c10, c20, c30, sXX, sXA, sXS, sAX, sAA, sAS, sSX, sSA, sSS, Bool.false_eq_true]
    exact LN_i rfl (hS_th hs) (by omega)
  · exact absurd rfl ne
  · exact absurd rfl ne
theorem lj2976 (hs : hS B I Y Γ D O M) (hB : B < 700000000) (hr : RD5 S xs a5) : LN B a5 j (fw_law_j2976 S xs I C Y Γ D O M ou od j a5) := by
  obtain ⟨x, y, z, u, w, ⟨x1, x2⟩, ⟨y1, y2⟩, ⟨z1, z2⟩, r1, r2, r3, r4, r5⟩ := hr
  unfold fw_law_j2976 fw_undo
  rcases o_undo hs with ⟨p, Y1, Γ1, M1, e1, e2, e3, e4⟩ | ⟨e1, e2⟩ | ⟨e1, e2, ne⟩ | ⟨e1, e2, ne⟩
  · have e5 : fM_thrown M1 = 0 := e3
    simp only [e1, e2, e5, r1, r2, r3, r4, r5, bnd_s, bnd2_s, bnd3_s, bnd4_s, bnd5_s, bnd6_s, bnd7_s, bnx_l, bnx_r, Sum.elim_inl, Sum.elim_inr, th_w, up_0, upd_0, ↓reduceIte, eq_self, if_true, if_false, c10, c20, c30, sXX, sXA, sXS, sAX, sAA, sAS, sSX, sSA, sSS, Bool.false_eq_true]
    exact LN_i rfl (hS_le (by omega) e4) (by omega)
  · have e0 : True := trivial
    simp only [e1, e2, r1, r2, r3, r4, r5, bnd_s, bnd2_s, bnd3_s, bnd4_s, bnd5_s, bnd6_s, bnd7_s, bnx_l, bnx_r, Sum.elim_inl, Sum.elim_inr, th_w, up_0, upd_0, ↓reduceIte, eq_self, if_true, if_false, c10, c20, c30, sXX, sXA, sXS, sAX, sAA, sAS, sSX, sSA, sSS, Bool.false_eq_true]
    exact LN_i rfl (hS_th hs) (by omega)
  · exact absurd rfl ne
  · exact absurd rfl ne
theorem lj3020 (hs : hS B I Y Γ D O M) (hB : B < 700000000) (hr : RD5 S xs a5) : LN B a5 j (fw_law_j3020 S xs I C Y Γ D O M ou od j a5) := by
  obtain ⟨x, y, z, u, w, ⟨x1, x2⟩, ⟨y1, y2⟩, ⟨z1, z2⟩, r1, r2, r3, r4, r5⟩ := hr
  unfold fw_law_j3020 fw_printBand
  rcases o_print hs x1 x2 with ⟨p, D1, O1, M1, e1, e2, e3, e4⟩ | ⟨e1, e2⟩
  · have e5 : fM_thrown M1 = 0 := e3
    simp only [e1, e2, e5, r1, r2, r3, r4, r5, bnd_s, bnd2_s, bnd3_s, bnd4_s, bnd5_s, bnd6_s, bnd7_s, bnx_l, bnx_r, Sum.elim_inl, Sum.elim_inr, th_w, up_0, upd_0, ↓reduceIte, eq_self, if_true, if_false, c10, c20, c30, sXX, sXA, sXS, sAX, sAA, sAS, sSX, sSA, sSS, Bool.false_eq_true]
    exact LN_i rfl (hS_le (by omega) e4) (by omega)
  · have e0 : True := trivial
    simp only [e1, e2, r1, r2, r3, r4, r5, bnd_s, bnd2_s, bnd3_s, bnd4_s, bnd5_s, bnd6_s, bnd7_s, bnx_l, bnx_r, Sum.elim_inl, Sum.elim_inr, th_w, up_0, upd_0, ↓reduceIte, eq_self, if_true, if_false, c10, c20, c30, sXX, sXA, sXS, sAX, sAA, sAS, sSX, sSA, sSS, Bool.false_eq_true]
    exact LN_i rfl (hS_th hs) (by omega)
theorem lj3076 (hs : hS B I Y Γ D O M) (hB : B < 700000000) (hr : RD5 S xs a5) : LN B a5 j (fw_law_j3076 S xs I C Y Γ D O M ou od j a5) := by
  obtain ⟨x, y, z, u, w, ⟨x1, x2⟩, ⟨y1, y2⟩, ⟨z1, z2⟩, r1, r2, r3, r4, r5⟩ := hr
  unfold fw_law_j3076 fw_outputByte
  rcases q_outputByte hs.2.2.2.2 x1 x2 with ⟨p, q, e1, e2, e3⟩ | ⟨q, e1, e2⟩ | ⟨q, e1, e2, ne⟩
  · subst e3
    simp only [e1, e2, r1, r2, r3, r4, r5, bnd_s, bnd2_s, bnd3_s, bnd4_s, bnd5_s, bnd6_s, bnd7_s, bnx_l, bnx_r, Sum.elim_inl, Sum.elim_inr, th_w, up_0, upd_0, ↓reduceIte, eq_self, if_true, if_false, c10, c20, c30, sXX, sXA, sXS, sAX, sAA, sAS, sSX, sSA, sSS, Bool.false_eq_true]
    exact LN_i rfl (hS_th hs) (by omega)
  · have e0 : True := trivial
    simp only [e1, e2, r1, r2, r3, r4, r5, bnd_s, bnd2_s, bnd3_s, bnd4_s, bnd5_s, bnd6_s, bnd7_s, bnx_l, bnx_r, Sum.elim_inl, Sum.elim_inr, th_w, up_0, upd_0, ↓reduceIte, eq_self, if_true, if_false, c10, c20, c30, sXX, sXA, sXS, sAX, sAA, sAS, sSX, sSA, sSS, Bool.false_eq_true]
    exact LN_i rfl (hS_th hs) (by omega)
  · exact absurd rfl ne
theorem lj3132 (hs : hS B I Y Γ D O M) (hB : B < 700000000) (hr : RD5 S xs a5) : LN B a5 j (fw_law_j3132 S xs I C Y Γ D O M ou od j a5) := by
  clear hr
  obtain ⟨p, Γ1, D1, M1, e1, e2, e3⟩ := o_save hs
  unfold fw_law_j3132
  simp only [e1, e2, bnd_s, bnd2_s, bnd3_s, bnd4_s, bnd5_s, bnd6_s, bnd7_s, bnx_l, bnx_r, Sum.elim_inl, Sum.elim_inr, th_w, up_0, upd_0, ↓reduceIte, eq_self, if_true, if_false, c10, c20, c30, sXX, sXA, sXS, sAX, sAA, sAS, sSX, sSA, sSS, Bool.false_eq_true]
  exact LN_i rfl (hS_le (by omega) e3) (by omega)
theorem lj3145 (hs : hS B I Y Γ D O M) (hB : B < 700000000) (hr : RD5 S xs a5) : LN B a5 j (fw_law_j3145 S xs I C Y Γ D O M ou od j a5) := by
  obtain ⟨x, y, z, u, w, ⟨x1, x2⟩, ⟨y1, y2⟩, ⟨z1, z2⟩, r1, r2, r3, r4, r5⟩ := hr
  unfold fw_law_j3145 fw_restoreState
  rcases o_restore hs with ⟨p, Y1, Γ1, M1, e1, e2, e3, e4⟩ | ⟨e1, e2⟩ | ⟨e1, e2, ne⟩ | ⟨e1, e2, ne⟩
  · have e5 : fM_thrown M1 = 0 := e3
    simp only [e1, e2, e5, r1, r2, r3, r4, r5, bnd_s, bnd2_s, bnd3_s, bnd4_s, bnd5_s, bnd6_s, bnd7_s, bnx_l, bnx_r, Sum.elim_inl, Sum.elim_inr, th_w, up_0, upd_0, ↓reduceIte, eq_self, if_true, if_false, c10, c20, c30, sXX, sXA, sXS, sAX, sAA, sAS, sSX, sSA, sSS, Bool.false_eq_true]
    exact LN_i rfl (hS_le (by omega) e4) (by omega)
  · have e0 : True := trivial
    simp only [e1, e2, r1, r2, r3, r4, r5, bnd_s, bnd2_s, bnd3_s, bnd4_s, bnd5_s, bnd6_s, bnd7_s, bnx_l, bnx_r, Sum.elim_inl, Sum.elim_inr, th_w, up_0, upd_0, ↓reduceIte, eq_self, if_true, if_false, c10, c20, c30, sXX, sXA, sXS, sAX, sAA, sAS, sSX, sSA, sSS, Bool.false_eq_true]
    exact LN_i rfl (hS_th hs) (by omega)
  · exact absurd rfl ne
  · exact absurd rfl ne
end HJF

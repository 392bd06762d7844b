/-! THE LAW'S CALLS (3) -/
section HJE
variable {S : Nat} {xs : Nat → Int32} {I : zI} {C : zC} {Y : Nat → Int32} {Γ : Nat → zG} {D : zD} {O : Nat → Int32} {M : zM} {ou : Nat → Int64} {od : Nat → UInt64} {j : Nat} {a5 : Int32} {B : Int}
theorem lj1617 (hs : hS B I Y Γ D O M) (hB : B < 700000000) (hr : RD5 S xs a5) : LN B a5 j (fw_law_j1617 S xs I C Y Γ D O M ou od j a5) := by
  obtain ⟨x, y, z, u, w, ⟨x1, x2⟩, ⟨y1, y2⟩, ⟨z1, z2⟩, r1, r2, r3, r4, r5⟩ := hr
  unfold fw_law_j1617 fw_labelBand
  rcases q_labelBand hs.1 (by omega) x1 x2  with ⟨p, q, e1, e2, e3⟩ | ⟨q, e1, e2⟩ | ⟨q, e1, e2, ne⟩
  · subst e3
    simp only [e1, e2, r1, r2, r3, r4, r5, bnd_s, bnd2_s, bnd3_s, bnd4_s, bnd5_s, bnd6_s, bnd7_s, bnx_l, bnx_r, Sum.elim_inl, Sum.elim_inr, th_w, up_0, upd_0, ↓reduceIte, eq_self, if_true, if_false, c10, c20, c30, sXX, sXA, sXS, sAX, sAA, sAS, sSX, sSA, sSS, Bool.false_eq_true]
    exact LN_i rfl (hS_th hs) (by omega)
  · have e0 : True := trivial
    simp only [e1, e2, r1, r2, r3, r4, r5, bnd_s, bnd2_s, bnd3_s, bnd4_s, bnd5_s, bnd6_s, bnd7_s, bnx_l, bnx_r, Sum.elim_inl, Sum.elim_inr, th_w, up_0, upd_0, ↓reduceIte, eq_self, if_true, if_false, c10, c20, c30, sXX, sXA, sXS, sAX, sAA, sAS, sSX, sSA, sSS, Bool.false_eq_true]
    exact LN_i rfl (hS_th hs) (by omega)
  · exact absurd rfl ne
theorem lj1673 (hs : hS B I Y Γ D O M) (hB : B < 700000000) (hr : RD5 S xs a5) : LN B a5 j (fw_law_j1673 S xs I C Y Γ D O M ou od j a5) := by
  obtain ⟨x, y, z, u, w, ⟨x1, x2⟩, ⟨y1, y2⟩, ⟨z1, z2⟩, r1, r2, r3, r4, r5⟩ := hr
  unfold fw_law_j1673 fw_labelFirst
  rcases q_labelFirst hs.1 (by omega) x1 x2  with ⟨p, q, e1, e2, e3⟩ | ⟨q, e1, e2⟩ | ⟨q, e1, e2, ne⟩
  · subst e3
    simp only [e1, e2, r1, r2, r3, r4, r5, bnd_s, bnd2_s, bnd3_s, bnd4_s, bnd5_s, bnd6_s, bnd7_s, bnx_l, bnx_r, Sum.elim_inl, Sum.elim_inr, th_w, up_0, upd_0, ↓reduceIte, eq_self, if_true, if_false, c10, c20, c30, sXX, sXA, sXS, sAX, sAA, sAS, sSX, sSA, sSS, Bool.false_eq_true]
    exact LN_i rfl (hS_th hs) (by omega)
  · have e0 : True := trivial
    simp only [e1, e2, r1, r2, r3, r4, r5, bnd_s, bnd2_s, bnd3_s, bnd4_s, bnd5_s, bnd6_s, bnd7_s, bnx_l, bnx_r, Sum.elim_inl, Sum.elim_inr, th_w, up_0, upd_0, ↓reduceIte, eq_self, if_true, if_false, c10, c20, c30, sXX, sXA, sXS, sAX, sAA, sAS, sSX, sSA, sSS, Bool.false_eq_true]
    exact LN_i rfl (hS_th hs) (by omega)
  · exact absurd rfl ne
theorem lj1729 (hs : hS B I Y Γ D O M) (hB : B < 700000000) (hr : RD5 S xs a5) : LN B a5 j (fw_law_j1729 S xs I C Y Γ D O M ou od j a5) := by
  obtain ⟨x, y, z, u, w, ⟨x1, x2⟩, ⟨y1, y2⟩, ⟨z1, z2⟩, r1, r2, r3, r4, r5⟩ := hr
  unfold fw_law_j1729 fw_labelLast
  rcases q_labelLast hs.1 (by omega) x1 x2  with ⟨p, q, e1, e2, e3⟩ | ⟨q, e1, e2⟩ | ⟨q, e1, e2, ne⟩
  · subst e3
    simp only [e1, e2, r1, r2, r3, r4, r5, bnd_s, bnd2_s, bnd3_s, bnd4_s, bnd5_s, bnd6_s, bnd7_s, bnx_l, bnx_r, Sum.elim_inl, Sum.elim_inr, th_w, up_0, upd_0, ↓reduceIte, eq_self, if_true, if_false, c10, c20, c30, sXX, sXA, sXS, sAX, sAA, sAS, sSX, sSA, sSS, Bool.false_eq_true]
    exact LN_i rfl (hS_th hs) (by omega)
  · have e0 : True := trivial
    simp only [e1, e2, r1, r2, r3, r4, r5, bnd_s, bnd2_s, bnd3_s, bnd4_s, bnd5_s, bnd6_s, bnd7_s, bnx_l, bnx_r, Sum.elim_inl, Sum.elim_inr, th_w, up_0, upd_0, ↓reduceIte, eq_self, if_true, if_false, c10, c20, c30, sXX, sXA, sXS, sAX, sAA, sAS, sSX, sSA, sSS, Bool.false_eq_true]
    exact LN_i rfl (hS_th hs) (by omega)
  · exact absurd rfl ne
theorem lj1785 (hs : hS B I Y Γ D O M) (hB : B < 700000000) (hr : RD5 S xs a5) : LN B a5 j (fw_law_j1785 S xs I C Y Γ D O M ou od j a5) := by
  obtain ⟨x, y, z, u, w, ⟨x1, x2⟩, ⟨y1, y2⟩, ⟨z1, z2⟩, r1, r2, r3, r4, r5⟩ := hr
  unfold fw_law_j1785 fw_isLabelTorn
  rcases q_isLabelTorn hs.1 (by omega) x1 x2  with ⟨p, q, e1, e2, e3⟩ | ⟨q, e1, e2⟩ | ⟨q, e1, e2, ne⟩
  · subst e3
    cases p with
    | false =>
      simp only [e1, e2, fw_isLabelTorn_j15, fw_law_j1839, r1, r2, r3, r4, r5, bnd_s, bnd2_s, bnd3_s, bnd4_s, bnd5_s, bnd6_s, bnd7_s, bnx_l, bnx_r, Sum.elim_inl, Sum.elim_inr, th_w, up_0, upd_0, ↓reduceIte, eq_self, if_true, if_false, c10, c20, c30, sXX, sXA, sXS, sAX, sAA, sAS, sSX, sSA, sSS, Bool.false_eq_true]
      exact LN_i rfl (hS_th hs) (by omega)
    | true =>
      simp only [e1, e2, fw_isLabelTorn_j15, fw_law_j1839, r1, r2, r3, r4, r5, bnd_s, bnd2_s, bnd3_s, bnd4_s, bnd5_s, bnd6_s, bnd7_s, bnx_l, bnx_r, Sum.elim_inl, Sum.elim_inr, th_w, up_0, upd_0, ↓reduceIte, eq_self, if_true, if_false, c10, c20, c30, sXX, sXA, sXS, sAX, sAA, sAS, sSX, sSA, sSS, Bool.false_eq_true]
      exact LN_i rfl (hS_th hs) (by omega)
  · have e0 : True := trivial
    simp only [e1, e2, r1, r2, r3, r4, r5, bnd_s, bnd2_s, bnd3_s, bnd4_s, bnd5_s, bnd6_s, bnd7_s, bnx_l, bnx_r, Sum.elim_inl, Sum.elim_inr, th_w, up_0, upd_0, ↓reduceIte, eq_self, if_true, if_false, c10, c20, c30, sXX, sXA, sXS, sAX, sAA, sAS, sSX, sSA, sSS, Bool.false_eq_true]
    exact LN_i rfl (hS_th hs) (by omega)
  · exact absurd rfl ne
theorem lj1848 (hs : hS B I Y Γ D O M) (hB : B < 700000000) (hr : RD5 S xs a5) : LN B a5 j (fw_law_j1848 S xs I C Y Γ D O M ou od j a5) := by
  obtain ⟨x, y, z, u, w, ⟨x1, x2⟩, ⟨y1, y2⟩, ⟨z1, z2⟩, r1, r2, r3, r4, r5⟩ := hr
  unfold fw_law_j1848 fw_labelAt
  rcases q_labelAt hs.1 (by omega) x1 x2 y1 y2 with ⟨p, q, e1, e2, e3⟩ | ⟨q, e1, e2⟩ | ⟨q, e1, e2, ne⟩
  · subst e3
    simp only [e1, e2, r1, r2, r3, r4, r5, bnd_s, bnd2_s, bnd3_s, bnd4_s, bnd5_s, bnd6_s, bnd7_s, bnx_l, bnx_r, Sum.elim_inl, Sum.elim_inr, th_w, up_0, upd_0, ↓reduceIte, eq_self, if_true, if_false, c10, c20, c30, sXX, sXA, sXS, sAX, sAA, sAS, sSX, sSA, sSS, Bool.false_eq_true]
    exact LN_i rfl (hS_th hs) (by omega)
  · have e0 : True := trivial
    simp only [e1, e2, r1, r2, r3, r4, r5, bnd_s, bnd2_s, bnd3_s, bnd4_s, bnd5_s, bnd6_s, bnd7_s, bnx_l, bnx_r, Sum.elim_inl, Sum.elim_inr, th_w, up_0, upd_0, ↓reduceIte, eq_self, if_true, if_false, c10, c20, c30, sXX, sXA, sXS, sAX, sAA, sAS, sSX, sSA, sSS, Bool.false_eq_true]
    exact LN_i rfl (hS_th hs) (by omega)
  · exact absurd rfl ne
theorem lj1916 (hs : hS B I Y Γ D O M) (hB : B < 700000000) (hr : RD5 S xs a5) : LN B a5 j (fw_law_j1916 S xs I C Y Γ D O M ou od j a5) := by
  obtain ⟨x, y, z, u, w, ⟨x1, x2⟩, ⟨y1, y2⟩, ⟨z1, z2⟩, r1, r2, r3, r4, r5⟩ := hr
  unfold fw_law_j1916 fw_hemObstacle
  rcases q_hemObstacle hs.1 (by omega) x1 x2 y1 y2 with ⟨p, q, e1, e2, e3⟩ | ⟨q, e1, e2⟩ | ⟨q, e1, e2, ne⟩
  · subst e3
    simp only [e1, e2, r1, r2, r3, r4, r5, bnd_s, bnd2_s, bnd3_s, bnd4_s, bnd5_s, bnd6_s, bnd7_s, bnx_l, bnx_r, Sum.elim_inl, Sum.elim_inr, th_w, up_0, upd_0, ↓reduceIte, eq_self, if_true, if_false, c10, c20, c30, sXX, sXA, sXS, sAX, sAA, sAS, sSX, sSA, sSS, Bool.false_eq_true]
    exact LN_i rfl (hS_th hs) (by omega)
  · have e0 : True := trivial
    simp only [e1, e2, r1, r2, r3, r4, r5, bnd_s, bnd2_s, bnd3_s, bnd4_s, bnd5_s, bnd6_s, bnd7_s, bnx_l, bnx_r, Sum.elim_inl, Sum.elim_inr, th_w, up_0, upd_0, ↓reduceIte, eq_self, if_true, if_false, c10, c20, c30, sXX, sXA, sXS, sAX, sAA, sAS, sSX, sSA, sSS, Bool.false_eq_true]
    exact LN_i rfl (hS_th hs) (by omega)
  · exact absurd rfl ne
theorem lj1984 (hs : hS B I Y Γ D O M) (hB : B < 700000000) (hr : RD5 S xs a5) : LN B a5 j (fw_law_j1984 S xs I C Y Γ D O M ou od j a5) := by
  obtain ⟨x, y, z, u, w, ⟨x1, x2⟩, ⟨y1, y2⟩, ⟨z1, z2⟩, r1, r2, r3, r4, r5⟩ := hr
  obtain ⟨⟨n, n1, n2, n3, n4, n5⟩, -, -⟩ := hs.2.2.2.1
  unfold fw_law_j1984 fw_labelObstacle
  rcases q_labelObstacle hs.1 (by omega) n5 n3 n4 n1 n2 x1 x2 y1 y2 with ⟨p, q, e1, e2, e3⟩ | ⟨q, e1, e2⟩ | ⟨q, e1, e2, ne⟩
  · subst e3
    simp only [e1, e2, r1, r2, r3, r4, r5, bnd_s, bnd2_s, bnd3_s, bnd4_s, bnd5_s, bnd6_s, bnd7_s, bnx_l, bnx_r, Sum.elim_inl, Sum.elim_inr, th_w, up_0, upd_0, ↓reduceIte, eq_self, if_true, if_false, c10, c20, c30, sXX, sXA, sXS, sAX, sAA, sAS, sSX, sSA, sSS, Bool.false_eq_true]
    exact LN_i rfl (hS_th hs) (by omega)
  · have e0 : True := trivial
    simp only [e1, e2, r1, r2, r3, r4, r5, bnd_s, bnd2_s, bnd3_s, bnd4_s, bnd5_s, bnd6_s, bnd7_s, bnx_l, bnx_r, Sum.elim_inl, Sum.elim_inr, th_w, up_0, upd_0, ↓reduceIte, eq_self, if_true, if_false, c10, c20, c30, sXX, sXA, sXS, sAX, sAA, sAS, sSX, sSA, sSS, Bool.false_eq_true]
    exact LN_i rfl (hS_th hs) (by omega)
  · exact absurd rfl ne
theorem lj2052 (hs : hS B I Y Γ D O M) (hB : B < 700000000) (hr : RD5 S xs a5) : LN B a5 j (fw_law_j2052 S xs I C Y Γ D O M ou od j a5) := by
  obtain ⟨x, y, z, u, w, ⟨x1, x2⟩, ⟨y1, y2⟩, ⟨z1, z2⟩, r1, r2, r3, r4, r5⟩ := hr
  unfold fw_law_j2052 fw_stepObstacle
  rcases q_stepObstacle hs.1 (by omega) x1 x2 y1 y2 with ⟨p, q, e1, e2, e3⟩ | ⟨q, e1, e2⟩ | ⟨q, e1, e2, ne⟩
  · subst e3
    simp only [e1, e2, r1, r2, r3, r4, r5, bnd_s, bnd2_s, bnd3_s, bnd4_s, bnd5_s, bnd6_s, bnd7_s, bnx_l, bnx_r, Sum.elim_inl, Sum.elim_inr, th_w, up_0, upd_0, ↓reduceIte, eq_self, if_true, if_false, c10, c20, c30, sXX, sXA, sXS, sAX, sAA, sAS, sSX, sSA, sSS, Bool.false_eq_true]
    exact LN_i rfl (hS_th hs) (by omega)
  · have e0 : True := trivial
    simp only [e1, e2, r1, r2, r3, r4, r5, bnd_s, bnd2_s, bnd3_s, bnd4_s, bnd5_s, bnd6_s, bnd7_s, bnx_l, bnx_r, Sum.elim_inl, Sum.elim_inr, th_w, up_0, upd_0, ↓reduceIte, eq_self, if_true, if_false, c10, c20, c30, sXX, sXA, sXS, sAX, sAA, sAS, sSX, sSA, sSS, Bool.false_eq_true]
    exact LN_i rfl (hS_th hs) (by omega)
  · have e0 : True := trivial
    simp only [e1, e2, r1, r2, r3, r4, r5, bnd_s, bnd2_s, bnd3_s, bnd4_s, bnd5_s, bnd6_s, bnd7_s, bnx_l, bnx_r, Sum.elim_inl, Sum.elim_inr, th_w, up_0, upd_0, ↓reduceIte, eq_self, if_true, if_false, c10, c20, c30, sXX, sXA, sXS, sAX, sAA, sAS, sSX, sSA, sSS, Bool.false_eq_true]
    exact LN_i rfl (hS_th hs) (by omega)
theorem lj2120 (hs : hS B I Y Γ D O M) (hB : B < 700000000) (hr : RD5 S xs a5) : LN B a5 j (fw_law_j2120 S xs I C Y Γ D O M ou od j a5) := by
  obtain ⟨x, y, z, u, w, ⟨x1, x2⟩, ⟨y1, y2⟩, ⟨z1, z2⟩, r1, r2, r3, r4, r5⟩ := hr
  unfold fw_law_j2120 fw_hoursUntilTear
  rcases o_until hs (by omega) x1 x2 with ⟨p, Γ1, M1, e1, e2, e3, e4⟩ | ⟨e1, e2⟩ | ⟨e1, e2, ne⟩
  · have e5 : fM_thrown M1 = 0 := e3
    simp only [e1, e2, e5, r1, r2, r3, r4, r5, bnd_s, bnd2_s, bnd3_s, bnd4_s, bnd5_s, bnd6_s, bnd7_s, bnx_l, bnx_r, Sum.elim_inl, Sum.elim_inr, th_w, up_0, upd_0, ↓reduceIte, eq_self, if_true, if_false, c10, c20, c30, sXX, sXA, sXS, sAX, sAA, sAS, sSX, sSA, sSS, Bool.false_eq_true]
    exact LN_i rfl (hS_le (by omega) e4) (by omega)
  · have e0 : True := trivial
    simp only [e1, e2, r1, r2, r3, r4, r5, bnd_s, bnd2_s, bnd3_s, bnd4_s, bnd5_s, bnd6_s, bnd7_s, bnx_l, bnx_r, Sum.elim_inl, Sum.elim_inr, th_w, up_0, upd_0, ↓reduceIte, eq_self, if_true, if_false, c10, c20, c30, sXX, sXA, sXS, sAX, sAA, sAS, sSX, sSA, sSS, Bool.false_eq_true]
    exact LN_i rfl (hS_th hs) (by omega)
  · exact absurd rfl ne
theorem lj2176 (hs : hS B I Y Γ D O M) (hB : B < 700000000) (hr : RD5 S xs a5) : LN B a5 j (fw_law_j2176 S xs I C Y Γ D O M ou od j a5) := by
  obtain ⟨x, y, z, u, w, ⟨x1, x2⟩, ⟨y1, y2⟩, ⟨z1, z2⟩, r1, r2, r3, r4, r5⟩ := hr
  unfold fw_law_j2176 fw_meridianAfter
  rcases o_after hs (by omega) x1 x2 y1 y2 with ⟨p, Γ1, M1, e1, e2, e3, e4⟩ | ⟨e1, e2⟩ | ⟨e1, e2, ne⟩
  · have e5 : fM_thrown M1 = 0 := e3
    simp only [e1, e2, e5, r1, r2, r3, r4, r5, bnd_s, bnd2_s, bnd3_s, bnd4_s, bnd5_s, bnd6_s, bnd7_s, bnx_l, bnx_r, Sum.elim_inl, Sum.elim_inr, th_w, up_0, upd_0, ↓reduceIte, eq_self, if_true, if_false, c10, c20, c30, sXX, sXA, sXS, sAX, sAA, sAS, sSX, sSA, sSS, Bool.false_eq_true]
    exact LN_i rfl (hS_le (by omega) e4) (by omega)
  · have e0 : True := trivial
    simp only [e1, e2, r1, r2, r3, r4, r5, bnd_s, bnd2_s, bnd3_s, bnd4_s, bnd5_s, bnd6_s, bnd7_s, bnx_l, bnx_r, Sum.elim_inl, Sum.elim_inr, th_w, up_0, upd_0, ↓reduceIte, eq_self, if_true, if_false, c10, c20, c30, sXX, sXA, sXS, sAX, sAA, sAS, sSX, sSA, sSS, Bool.false_eq_true]
    exact LN_i rfl (hS_th hs) (by omega)
  · have e0 : True := trivial
    simp only [e1, e2, r1, r2, r3, r4, r5, bnd_s, bnd2_s, bnd3_s, bnd4_s, bnd5_s, bnd6_s, bnd7_s, bnx_l, bnx_r, Sum.elim_inl, Sum.elim_inr, th_w, up_0, upd_0, ↓reduceIte, eq_self, if_true, if_false, c10, c20, c30, sXX, sXA, sXS, sAX, sAA, sAS, sSX, sSA, sSS, Bool.false_eq_true]
    exact LN_i rfl (hS_th hs) (by omega)
theorem lj2244 (hs : hS B I Y Γ D O M) (hB : B < 700000000) (hr : RD5 S xs a5) : LN B a5 j (fw_law_j2244 S xs I C Y Γ D O M ou od j a5) := by
  clear hr
  obtain ⟨v, e1, e2⟩ := q_violations hs.1 (by omega)
  unfold fw_law_j2244
  simp only [e1, e2, bnd_s, bnd2_s, bnd3_s, bnd4_s, bnd5_s, bnd6_s, bnd7_s, bnx_l, bnx_r, Sum.elim_inl, Sum.elim_inr, th_w, up_0, upd_0, ↓reduceIte, eq_self, if_true, if_false, c10, c20, c30, sXX, sXA, sXS, sAX, sAA, sAS, sSX, sSA, sSS, Bool.false_eq_true]
  exact LN_i rfl (hS_th hs) (by omega)
theorem lj2257 (hs : hS B I Y Γ D O M) (hB : B < 700000000) (hr : RD5 S xs a5) : LN B a5 j (fw_law_j2257 S xs I C Y Γ D O M ou od j a5) := by
  clear hr
  obtain ⟨v, e1, e2⟩ := q_mean hs.1
  unfold fw_law_j2257
  by_cases c : Op.cmpValue (FP.dcmp v v) .l = 0
  · simp only [e1, e2, bnd_s, bnd2_s, bnd3_s, bnd4_s, bnd5_s, bnd6_s, bnd7_s, bnx_l, bnx_r, Sum.elim_inl, Sum.elim_inr, th_w, up_0, upd_0, ↓reduceIte, eq_self, if_true, if_false, c10, c20, c30, sXX, sXA, sXS, sAX, sAA, sAS, sSX, sSA, sSS, Bool.false_eq_true, c]
    exact LN_i rfl (hS_th hs) (by omega)
  · simp only [e1, e2, bnd_s, bnd2_s, bnd3_s, bnd4_s, bnd5_s, bnd6_s, bnd7_s, bnx_l, bnx_r, Sum.elim_inl, Sum.elim_inr, th_w, up_0, upd_0, ↓reduceIte, eq_self, if_true, if_false, c10, c20, c30, sXX, sXA, sXS, sAX, sAA, sAS, sSX, sSA, sSS, Bool.false_eq_true, c]
    exact LN_i rfl (hS_th hs) (by omega)
theorem lj2298 (hs : hS B I Y Γ D O M) (hB : B < 700000000) (hr : RD5 S xs a5) : LN B a5 j (fw_law_j2298 S xs I C Y Γ D O M ou od j a5) := by
  obtain ⟨x, y, z, u, w, ⟨x1, x2⟩, ⟨y1, y2⟩, ⟨z1, z2⟩, r1, r2, r3, r4, r5⟩ := hr
  unfold fw_law_j2298 fw_labelShare
  rcases q_labelShare hs.1 x1 x2 with ⟨v, u, e1, e2, e3, e4⟩ | ⟨e1, e2⟩
  · have e0 : True := trivial
    simp only [e1, e2, e3, e4, r1, r2, r3, r4, r5, bnd_s, bnd2_s, bnd3_s, bnd4_s, bnd5_s, bnd6_s, bnd7_s, bnx_l, bnx_r, Sum.elim_inl, Sum.elim_inr, th_w, up_0, upd_0, ↓reduceIte, eq_self, if_true, if_false, c10, c20, c30, sXX, sXA, sXS, sAX, sAA, sAS, sSX, sSA, sSS, Bool.false_eq_true]
    exact LN_i rfl (hS_th hs) (by omega)
  · have e0 : True := trivial
    simp only [e1, e2, r1, r2, r3, r4, r5, bnd_s, bnd2_s, bnd3_s, bnd4_s, bnd5_s, bnd6_s, bnd7_s, bnx_l, bnx_r, Sum.elim_inl, Sum.elim_inr, th_w, up_0, upd_0, ↓reduceIte, eq_self, if_true, if_false, c10, c20, c30, sXX, sXA, sXS, sAX, sAA, sAS, sSX, sSA, sSS, Bool.false_eq_true]
    exact LN_i rfl (hS_th hs) (by omega)
theorem lj2376 (hs : hS B I Y Γ D O M) (hB : B < 700000000) (hr : RD5 S xs a5) : LN B a5 j (fw_law_j2376 S xs I C Y Γ D O M ou od j a5) := by
  obtain ⟨x, y, z, u, w, ⟨x1, x2⟩, ⟨y1, y2⟩, ⟨z1, z2⟩, r1, r2, r3, r4, r5⟩ := hr
  have key := o_spot (t := 0) (Or.inl rfl) hs (by omega) x1 x2 y1 y2
  have eb : decide ((0 : Int) = 1) = false := by decide
  rw [eb] at key
  rw [show hI 0 = 0 from rfl] at key
  unfold fw_law_j2376 fw_addTown fX_addTown fM_addTown
  rcases key with ⟨p, I1, Y1, Γ1, M1, e1, e2, e3, e4⟩ | ⟨e1, e2⟩ | ⟨e1, e2, ne⟩
  · have e5 : fM_thrown M1 = 0 := e3
    simp only [e1, e2, e5, r1, r2, r3, r4, r5, bnd_s, bnd2_s, bnd3_s, bnd4_s, bnd5_s, bnd6_s, bnd7_s, bnx_l, bnx_r, Sum.elim_inl, Sum.elim_inr, th_w, up_0, upd_0, ↓reduceIte, eq_self, if_true, if_false, c10, c20, c30, sXX, sXA, sXS, sAX, sAA, sAS, sSX, sSA, sSS, Bool.false_eq_true]
    exact LN_i rfl (hS_le (by omega) e4) (by omega)
  · have e0 : True := trivial
    simp only [e1, e2, r1, r2, r3, r4, r5, bnd_s, bnd2_s, bnd3_s, bnd4_s, bnd5_s, bnd6_s, bnd7_s, bnx_l, bnx_r, Sum.elim_inl, Sum.elim_inr, th_w, up_0, upd_0, ↓reduceIte, eq_self, if_true, if_false, c10, c20, c30, sXX, sXA, sXS, sAX, sAA, sAS, sSX, sSA, sSS, Bool.false_eq_true]
    exact LN_i rfl (hS_th hs) (by omega)
  · have e0 : True := trivial
    simp only [e1, e2, r1, r2, r3, r4, r5, bnd_s, bnd2_s, bnd3_s, bnd4_s, bnd5_s, bnd6_s, bnd7_s, bnx_l, bnx_r, Sum.elim_inl, Sum.elim_inr, th_w, up_0, upd_0, ↓reduceIte, eq_self, if_true, if_false, c10, c20, c30, sXX, sXA, sXS, sAX, sAA, sAS, sSX, sSA, sSS, Bool.false_eq_true]
    exact LN_i rfl (hS_th hs) (by omega)
theorem lj2444 (hs : hS B I Y Γ D O M) (hB : B < 700000000) (hr : RD5 S xs a5) : LN B a5 j (fw_law_j2444 S xs I C Y Γ D O M ou od j a5) := by
  obtain ⟨x, y, z, u, w, ⟨x1, x2⟩, ⟨y1, y2⟩, ⟨z1, z2⟩, r1, r2, r3, r4, r5⟩ := hr
  have key := o_spot (t := 1) (Or.inr rfl) hs (by omega) x1 x2 y1 y2
  have eb : decide ((1 : Int) = 1) = true := by decide
  rw [eb] at key
  rw [show hI 1 = 1 from rfl] at key
  unfold fw_law_j2444 fw_addTraveller fX_addTraveller fM_addTraveller
  rcases key with ⟨p, I1, Y1, Γ1, M1, e1, e2, e3, e4⟩ | ⟨e1, e2⟩ | ⟨e1, e2, ne⟩
  · have e5 : fM_thrown M1 = 0 := e3
    simp only [e1, e2, e5, r1, r2, r3, r4, r5, bnd_s, bnd2_s, bnd3_s, bnd4_s, bnd5_s, bnd6_s, bnd7_s, bnx_l, bnx_r, Sum.elim_inl, Sum.elim_inr, th_w, up_0, upd_0, ↓reduceIte, eq_self, if_true, if_false, c10, c20, c30, sXX, sXA, sXS, sAX, sAA, sAS, sSX, sSA, sSS, Bool.false_eq_true]
    exact LN_i rfl (hS_le (by omega) e4) (by omega)
  · have e0 : True := trivial
    simp only [e1, e2, r1, r2, r3, r4, r5, bnd_s, bnd2_s, bnd3_s, bnd4_s, bnd5_s, bnd6_s, bnd7_s, bnx_l, bnx_r, Sum.elim_inl, Sum.elim_inr, th_w, up_0, upd_0, ↓reduceIte, eq_self, if_true, if_false, c10, c20, c30, sXX, sXA, sXS, sAX, sAA, sAS, sSX, sSA, sSS, Bool.false_eq_true]
    exact LN_i rfl (hS_th hs) (by omega)
  · have e0 : True := trivial
    simp only [e1, e2, r1, r2, r3, r4, r5, bnd_s, bnd2_s, bnd3_s, bnd4_s, bnd5_s, bnd6_s, bnd7_s, bnx_l, bnx_r, Sum.elim_inl, Sum.elim_inr, th_w, up_0, upd_0, ↓reduceIte, eq_self, if_true, if_false, c10, c20, c30, sXX, sXA, sXS, sAX, sAA, sAS, sSX, sSA, sSS, Bool.false_eq_true]
    exact LN_i rfl (hS_th hs) (by omega)
end HJE

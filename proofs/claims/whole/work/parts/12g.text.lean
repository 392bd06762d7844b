/-! A WHOLE DESCRIPTION -/
section HIG
variable {M M0 M1 M2 : zM} {I I1 I2 : zI} {G : zG} {B n p p0 q k v x c lo hi : Int} {l : List Int}
theorem b3id {α β γ : Type} {o : Option (α × β × γ)} : (bnd3 o fun a b c => some (a, b, c)) = o := by cases o <;> rfl
theorem bid {α : Type} {o : Option α} : (bnd o fun a => some a) = o := by cases o <;> rfl
theorem LO_le {a : Option (Bool × zI × zG)} {b : Option zM} {B1 : Int} (hb : B ≤ B1) (h : LO B n p M a b) : LO B1 n p M a b := by
  obtain ⟨t, I1, G1, M1, h1, h2, h3, h4⟩ := h
  refine ⟨t, I1, G1, M1, h1, h2, h3, ?_⟩
  rcases h4 with ⟨a1, a2, a3, a4, a5⟩ | h4
  · exact Or.inl ⟨a1, a2, a3, hV_le hb a4, a5⟩
  · exact Or.inr h4
theorem kw_kind {w : Int64} (h : hAt n p I M) (e : fM_isWord M w = true) : iF I 4 = hI 1 := by
  obtain ⟨kd, k1, k2, k3, k4, k5⟩ := tok h
  unfold fM_isWord at e
  rw [h.2.2.2.2.2.1, k4, show (0 : Int32) = hI 0 from rfl, show (1 : Int32) = hI 1 from rfl, if_pos rfl, ieq (by omega) (by omega) (by omega) (by omega)] at e
  by_cases d : kd = 1
  · rw [k3, d]
  · rw [if_neg d] at e
    exact absurd e Bool.false_ne_true
theorem t_stmt (h : hAt n p I M) (hr : hR G (hm M)) (hv : hV B (hm M)) (hB : B < 990000000) : LO (B + 240) n p M (fD_readStatement I G) (fM_statement M) := by
  unfold fD_readStatement fM_statement
  simp only [b3id, bid]
  rcases t_kw h [20, 15, 23, 14] (c8 := 1953462126) (c5 := 671470) ⟨by decide, by decide, by decide⟩ rfl rfl with ⟨a, b⟩ | ⟨a, b⟩
  · rw [if_pos a, b, if_pos rfl]
    exact LO_le (by omega) (l_spot (t := 0) (Or.inl rfl) h (kw_kind h b) hr hv (by omega))
  rw [if_neg a, b, if_neg Bool.false_ne_true]
  rcases t_kw h [16, 5, 18, 19, 15, 14] (c8 := 123581014175598) (c5 := 542723566) ⟨by decide, by decide, by decide⟩ rfl rfl with ⟨a, b⟩ | ⟨a, b⟩
  · rw [if_pos a, b, if_pos rfl]
    exact LO_le (by omega) (l_spot (t := 1) (Or.inr rfl) h (kw_kind h b) hr hv (by omega))
  rw [if_neg a, b, if_neg Bool.false_ne_true]
  rcases t_kw h [12, 1, 2, 5, 12] (c8 := 465490306412) (c5 := 12617900) ⟨by decide, by decide, by decide⟩ rfl rfl with ⟨a, b⟩ | ⟨a, b⟩
  · rw [if_pos a, b, if_pos rfl]
    exact LO_le (by omega) (l_label h (kw_kind h b) hr hv)
  rw [if_neg a, b, if_neg Bool.false_ne_true]
  rcases t_kw h [8, 5, 13] (c8 := 6841709) (c5 := 8365) ⟨by decide, by decide, by decide⟩ rfl rfl with ⟨a, b⟩ | ⟨a, b⟩
  · rw [if_pos a, b, if_pos rfl]
    exact LO_le (by omega) (l_hem h hr hv)
  rw [if_neg a, b, if_neg Bool.false_ne_true]
  rcases t_kw h [19, 5, 23] (c8 := 7562615) (c5 := 19639) ⟨by decide, by decide, by decide⟩ rfl rfl with ⟨a, b⟩ | ⟨a, b⟩
  · rw [if_pos a, b, if_pos rfl]
    exact LO_le (by omega) (l_sew h hr hv)
  rw [if_neg a, b, if_neg Bool.false_ne_true]
  rcases t_kw h [18, 9, 16] (c8 := 7498096) (c5 := 18736) ⟨by decide, by decide, by decide⟩ rfl rfl with ⟨a, b⟩ | ⟨a, b⟩
  · rw [if_pos a, b, if_pos rfl]
    exact LO_le (by omega) (l_rip h hr hv)
  rw [if_neg a, b, if_neg Bool.false_ne_true]
  rcases t_kw h [23, 1, 12, 11] (c8 := 2002873451) (c5 := 755083) ⟨by decide, by decide, by decide⟩ rfl rfl with ⟨a, b⟩ | ⟨a, b⟩
  · rw [if_pos a, b, if_pos rfl]
    exact LO_le (by omega) (l_walk h hr hv)
  rw [if_neg a, b, if_neg Bool.false_ne_true]
  rcases t_kw h [20, 8, 18, 5, 1, 4] (c8 := 127991944667492) (c5 := 680072228) ⟨by decide, by decide, by decide⟩ rfl rfl with ⟨a, b⟩ | ⟨a, b⟩
  · rw [if_pos a, b, if_pos rfl]
    exact LO_le (by omega) (l_thread h hr hv)
  rw [if_neg a, b, if_neg Bool.false_ne_true]
  rcases t_kw h [16, 1, 19, 19] (c8 := 1885434739) (c5 := 525939) ⟨by decide, by decide, by decide⟩ rfl rfl with ⟨a, b⟩ | ⟨a, b⟩
  · rw [if_pos a, b, if_pos rfl]
    exact l_pass h hr hv (by omega)
  rw [if_neg a, b, if_neg Bool.false_ne_true]
  obtain ⟨I4, M3, k1, k2, k3, k4⟩ := t_fail h (c := 1) (by omega) (by omega) (fun _ => rfl)
  exact LO_bad (I1 := I4) (G1 := G) (M1 := M3) (by simp only [hI_lit, hL_lit, hI_neg, hI_add, hI_sub, bnd_s, bnd2_s, bnd3_s, ↓reduceIte, eq_self, if_true, if_false, Bool.false_eq_true, Bool.true_eq_false, k1]) (by simp only [hI_lit, hL_lit, hI_neg, hI_add, hI_sub, bnd_s, bnd2_s, bnd3_s, ↓reduceIte, eq_self, if_true, if_false, Bool.false_eq_true, Bool.true_eq_false, k2]) k4 k3
theorem it_ex2 {σ ρ : Type} {b : σ → Option (σ ⊕ ρ)} {s : σ} {o : Option ρ} {n : Nat} (h : b s = Option.map .inr o) : iter b (n + 1) s = o := by
  cases o with
  | none => simp only [iter, h, Option.map]
  | some r => simp only [iter, h, Option.map]
/-- the outcome of reading -/
def RO (B : Int) (M0 : zM) (a : Option (Bool × zI × zG)) (b : Option (Int32 × zM)) : Prop :=
  ∃ t I1 G1 M1, a = some (t, I1, G1) ∧ b = fM_readText_j50 M1 ∧ fRd M0 M1 ∧ ((t = true ∧ (mF M1 8 = hI 0 ∧ mF M1 9 = hI (-1) ∧ iF I1 8 = hI 0 ∧ iF I1 9 = hI (-1)) ∧ hR G1 (hm M1) ∧ hV B (hm M1) ∧ hm M1 0 = hm M0 0) ∨ (t = false ∧ hEr I1 M1))
theorem t_lines {B0 : Int} (hB : B0 < 900000000) : ∀ (m i : Nat) (p : Int) (I : zI) (G : zG) (M : zM) (f1 f2 : Nat), i + m = 200 → m + 2 ≤ f1 → m + 3 ≤ f2 → hAh n p I M → 3 * (i : Int) ≤ p → hR G (hm M) → hV (B0 + 240 * (i : Int)) (hm M) → hm M 0 = hm M0 0 → fRd M0 M → RO (B0 + 48240) M0 (iter (fun s => fD_read_b23 s.1 s.2.1 s.2.2) f1 (I, G, hI i)) (iter (fun s => fM_readText_b23 s) f2 M) := by
  intro m
  induction m with
  | zero =>
    intro i p I G M f1 f2 h1 h2 h3 h hp hr hv h0 hf
    obtain ⟨f1, rfl⟩ : ∃ k, f1 = k + 1 := ⟨f1 - 1, by omega⟩
    obtain ⟨f2, rfl⟩ : ∃ k, f2 = k + 1 := ⟨f2 - 1, by omega⟩
    have hg := ah_good h
    obtain ⟨p1, I1, a1, a2, a3, a4⟩ := h
    obtain ⟨n1, n2, hb, e1, m3, m8, e8, e9, m9, q, kd, q1, q2, q3, k1, k2, k3, k4, k5, k6, k7, k8, k9, k10⟩ := a2
    have hz : iF I1 4 = hI 0 := by
      refine Classical.byContradiction fun z => ?_
      have := a4 z
      omega
    have hk : mF M 6 = hI 0 := by rw [k8, ← k7, hz]
    have c6 : (hI 600 < hI i) = False := by rw [hI_lt (by omega) (by omega) (by omega) (by omega)]; exact eq_false (by omega)
    refine ⟨true, I1, G, M, it_ex (show fD_read_b23 I G (hI i) = _ by unfold fD_read_b23; simp only [hI_lit, hL_lit, hI_neg, hI_add, hI_sub, bnd_s, bnd2_s, bnd3_s, ↓reduceIte, eq_self, if_true, if_false, Bool.false_eq_true, Bool.true_eq_false, c6, a1, hz]), it_ex2 (show fM_readText_b23 M = _ by unfold fM_readText_b23; simp only [hI_lit, hL_lit, hI_neg, hI_add, hI_sub, bnd_s, bnd2_s, bnd3_s, ↓reduceIte, eq_self, if_true, if_false, Bool.false_eq_true, Bool.true_eq_false, hg, hk]), hf, Or.inl ⟨rfl, ⟨m8, m9, e8, e9⟩, hr, hV_le (by omega) hv, h0⟩⟩
  | succ m ih =>
    intro i p I G M f1 f2 h1 h2 h3 h hp hr hv h0 hf
    obtain ⟨f1, rfl⟩ : ∃ k, f1 = k + 1 := ⟨f1 - 1, by omega⟩
    obtain ⟨f2, rfl⟩ : ∃ k, f2 = k + 1 + 1 := ⟨f2 - 2, by omega⟩
    have hg := ah_good h
    obtain ⟨p1, I1, a1, a2, a3, a4⟩ := h
    obtain ⟨n1, n2, hb, e1, m3, m8, e8, e9, m9, q, kd, q1, q2, q3, k1, k2, k3, k4, k5, k6, k7, k8, k9, k10⟩ := id a2
    have c6 : (hI 600 < hI i) = False := by rw [hI_lt (by omega) (by omega) (by omega) (by omega)]; exact eq_false (by omega)
    by_cases hz : iF I1 4 = hI 0
    · have hk : mF M 6 = hI 0 := by rw [k8, ← k7, hz]
      exact ⟨true, I1, G, M, it_ex (show fD_read_b23 I G (hI i) = _ by unfold fD_read_b23; simp only [hI_lit, hL_lit, hI_neg, hI_add, hI_sub, bnd_s, bnd2_s, bnd3_s, ↓reduceIte, eq_self, if_true, if_false, Bool.false_eq_true, Bool.true_eq_false, c6, a1, hz]), it_ex2 (show fM_readText_b23 M = _ by unfold fM_readText_b23; simp only [hI_lit, hL_lit, hI_neg, hI_add, hI_sub, bnd_s, bnd2_s, bnd3_s, ↓reduceIte, eq_self, if_true, if_false, Bool.false_eq_true, Bool.true_eq_false, hg, hk]), hf, Or.inl ⟨rfl, ⟨m8, m9, e8, e9⟩, hr, hV_le (by omega) hv, h0⟩⟩
    · have hk : ¬ mF M 6 = hI 0 := by rw [k8, ← k7]; exact hz
      have hp1 := a4 hz
      obtain ⟨t, I2, G2, M2, s1, s2, s3, s4⟩ := t_stmt a2 hr hv (by omega)
      rcases s4 with ⟨rfl, ⟨p2, u1, u2⟩, u3, u4, u5⟩ | ⟨rfl, u1⟩
      · rcases t_sign (c := 59) u2 (by omega) (by omega) with ⟨p3, I3, M3, w1, w2, w3, w4, w5⟩ | ⟨I3, M3, w1, w2, w3, w4⟩
        · have l1 : iter (fun s => fD_read_b23 s.1 s.2.1 s.2.2) (f1 + 1) (I, G, hI i) = iter (fun s => fD_read_b23 s.1 s.2.1 s.2.2) f1 (I3, G2, hI ((i + 1 : Nat) : Int)) := it_su (show fD_read_b23 I G (hI i) = _ by unfold fD_read_b23; simp only [hI_lit, hL_lit, hI_neg, hI_add, hI_sub, bnd_s, bnd2_s, bnd3_s, ↓reduceIte, eq_self, if_true, if_false, Bool.false_eq_true, Bool.true_eq_false, c6, a1, hz, s1, w1]; rfl)
          have l2 : iter (fun s => fM_readText_b23 s) (f2 + 1 + 1) M = iter (fun s => fM_readText_b23 s) (f2 + 1) M3 := it_su (show fM_readText_b23 M = _ by unfold fM_readText_b23; simp only [hI_lit, hL_lit, hI_neg, hI_add, hI_sub, bnd_s, bnd2_s, bnd3_s, ↓reduceIte, eq_self, if_true, if_false, Bool.false_eq_true, Bool.true_eq_false, hg, hk, s2, w2])
          rw [l1, l2]
          have em := fGo_hm w5
          exact ih (i + 1) p3 I3 G2 M3 f1 (f2 + 1) (by omega) (by omega) (by omega) w3 (by omega) (by rw [em]; exact u3) (by rw [em]; exact hV_le (by omega) u4) (by rw [em, u5, h0]) (fRd_tr hf (fRd_tr s3 (fRd_go w5)))
        · have g := er_good w3
          have l2 : iter (fun s => fM_readText_b23 s) (f2 + 1 + 1) M = iter (fun s => fM_readText_b23 s) (f2 + 1) M3 := it_su (show fM_readText_b23 M = _ by unfold fM_readText_b23; simp only [hI_lit, hL_lit, hI_neg, hI_add, hI_sub, bnd_s, bnd2_s, bnd3_s, ↓reduceIte, eq_self, if_true, if_false, Bool.false_eq_true, Bool.true_eq_false, hg, hk, s2, w2])
          exact ⟨false, I3, G2, M3, it_ex (show fD_read_b23 I G (hI i) = _ by unfold fD_read_b23; simp only [hI_lit, hL_lit, hI_neg, hI_add, hI_sub, bnd_s, bnd2_s, bnd3_s, ↓reduceIte, eq_self, if_true, if_false, Bool.false_eq_true, Bool.true_eq_false, c6, a1, hz, s1, w1]), l2.trans (it_ex2 (show fM_readText_b23 M3 = _ by unfold fM_readText_b23; simp only [hI_lit, hL_lit, hI_neg, hI_add, hI_sub, bnd_s, bnd2_s, bnd3_s, ↓reduceIte, eq_self, if_true, if_false, Bool.false_eq_true, Bool.true_eq_false, g])), fRd_tr hf (fRd_tr s3 (fRd_go w4)), Or.inr ⟨rfl, w3⟩⟩
      · have g := er_good u1
        have l2 : iter (fun s => fM_readText_b23 s) (f2 + 1 + 1) M = iter (fun s => fM_readText_b23 s) (f2 + 1) M2 := it_su (show fM_readText_b23 M = _ by unfold fM_readText_b23; simp only [hI_lit, hL_lit, hI_neg, hI_add, hI_sub, bnd_s, bnd2_s, bnd3_s, ↓reduceIte, eq_self, if_true, if_false, Bool.false_eq_true, Bool.true_eq_false, hg, hk, s2, b_sign g])
        exact ⟨false, I2, G2, M2, it_ex (show fD_read_b23 I G (hI i) = _ by unfold fD_read_b23; simp only [hI_lit, hL_lit, hI_neg, hI_add, hI_sub, bnd_s, bnd2_s, bnd3_s, ↓reduceIte, eq_self, if_true, if_false, Bool.false_eq_true, Bool.true_eq_false, c6, a1, hz, s1]), l2.trans (it_ex2 (show fM_readText_b23 M2 = _ by unfold fM_readText_b23; simp only [hI_lit, hL_lit, hI_neg, hI_add, hI_sub, bnd_s, bnd2_s, bnd3_s, ↓reduceIte, eq_self, if_true, if_false, Bool.false_eq_true, Bool.true_eq_false, g])), fRd_tr hf s3, Or.inr ⟨rfl, u1⟩⟩
end HIG

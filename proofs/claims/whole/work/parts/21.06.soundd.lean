/-! calls, throws and handlers -/
section PXD
variable {p : Program} {l : Launch} {e : Env} {R : Room} {s : State} {m : MethodId} {args : Array Value} {below : List Frame} {meth : Method} {c : Code} {H : Heap} {locs : List Loc} {cells slots : Nat} {Q : State → Prop}
variable {B b S : Nat} {xs : Nat → Int32} {cy : Nat → ClassId} {D : va_G}
theorem px_okY_of {r : px_R} {n : Nat} (hr : px_sure r) (h : px_okY r n = true) : px_head r ∈ wsL_law ∧ (px_y r).cls = pt_own (px_cl r) ∧ (px_y r).cls ≠ "java/lang/invoke/MethodHandle" ∧ (px_y r).cls ≠ "java/lang/invoke/VarHandle" ∧ (parseMethodDescriptor (px_y r).desc).map (fun d => d.parameters.length) = some n := by
  simp only [px_okY, Bool.and_eq_true, decide_eq_true_eq] at h
  have h3 := hr.2
  simp only [px_okR, Bool.and_eq_true, Bool.or_eq_true, decide_eq_true_eq] at h3
  obtain ⟨⟨⟨-, -⟩, ⟨⟨⟨h4, h5⟩, h6⟩, h7⟩⟩, h8⟩ := h3
  refine ⟨px_wd_mem (h7.elim id (fun z => absurd z h.1)), h8, h4, h5, by rw [h6, h.2]⟩
theorem px_okM0 {c x j n : Nat} {ps : List Nat} {r : px_R} (hj : pt_mt[j]? = some r) (h : px_okM c (x, 0, j, n, ps) = true) : px_okY r n = true ∧ (px_hh r).isEmpty = true ∧ pt_ob (px_cl r) < 9 ∧ px_Cn (pt_ob (px_cl r)) = pt_own (px_cl r) ∧ Cond.methodLink (pt_own c) x (px_y r) ∈ wsL_law ∧ Cond.instanceMethod (px_y r) ∈ wsL_law ∧ Cond.selects (pt_own (px_cl r)) (px_y r) (px_y r) ∈ wsL_law ∧ Cond.initialized (pt_own (px_cl r)) ∈ wsL_law := by
  match ps, h with
  | [a, b, d, f], h =>
    simp only [px_okM, hj, Bool.and_eq_true, decide_eq_true_eq] at h
    exact ⟨h.1.1.1.1.1.1, h.1.1.1.1.1.2, h.1.1.1.1.2, pt_cn _ h.1.1.1.1.2, px_wd_mem h.1.1.1.2, px_wd_mem h.1.1.2, px_wd_mem h.1.2, px_wd_mem h.2⟩
  | [], h => exact px_no h
  | [_], h => exact px_no h
  | [_, _], h => exact px_no h
  | [_, _, _], h => exact px_no h
  | _ :: _ :: _ :: _ :: _ :: _, h => exact px_no h
theorem px_okM1 {c x j n : Nat} {ps : List Nat} {r : px_R} (hj : pt_mt[j]? = some r) (h : px_okM c (x, 1, j, n, ps) = true) : px_okY r n = true ∧ (px_hh r).isEmpty = true ∧ Cond.methodLink (pt_own c) x (px_y r) ∈ wsL_law ∧ Cond.static (px_y r) ∈ wsL_law ∧ Cond.initialized (pt_own (px_cl r)) ∈ wsL_law := by
  match ps, h with
  | [a, b, d], h =>
    simp only [px_okM, hj, Bool.and_eq_true, decide_eq_true_eq] at h
    exact ⟨h.1.1.1.1, h.1.1.1.2, px_wd_mem h.1.1.2, px_wd_mem h.1.2, px_wd_mem h.2⟩
  | [], h => exact px_no h
  | [_], h => exact px_no h
  | [_, _], h => exact px_no h
  | _ :: _ :: _ :: _ :: _, h => exact px_no h
theorem px_okM7 {c x j n : Nat} {ps : List Nat} {r : px_R} (hj : pt_mt[j]? = some r) (h : px_okM c (x, 7, j, n, ps) = true) : px_okY r n = true ∧ (px_hh r).isEmpty = false ∧ Cond.methodLink (pt_own c) x (px_y r) ∈ wsL_law ∧ Cond.static (px_y r) ∈ wsL_law ∧ Cond.initialized (pt_own (px_cl r)) ∈ wsL_law := by
  match ps, h with
  | [a, b, d], h =>
    simp only [px_okM, hj, Bool.and_eq_true, Bool.not_eq_true', decide_eq_true_eq] at h
    exact ⟨h.1.1.1.1, h.1.1.1.2, px_wd_mem h.1.1.2, px_wd_mem h.1.2, px_wd_mem h.2⟩
  | [], h => exact px_no h
  | [_], h => exact px_no h
  | [_, _], h => exact px_no h
  | _ :: _ :: _ :: _ :: _, h => exact px_no h
theorem px_okM2 {c x j n : Nat} {ps : List Nat} {r : px_R} (hj : pt_mt[j]? = some r) (h : px_okM c (x, 2, j, n, ps) = true) : px_okY r n = true ∧ (px_hh r).isEmpty = true ∧ (px_y r).name = "<init>" ∧ px_rt r = none ∧ Cond.methodLink (pt_own c) x (px_y r) ∈ wsL_law ∧ Cond.instanceMethod (px_y r) ∈ wsL_law ∧ Cond.initialized (pt_own (px_cl r)) ∈ wsL_law := by
  match ps, h with
  | [a, b, d], h =>
    simp only [px_okM, hj, Bool.and_eq_true, decide_eq_true_eq] at h
    exact ⟨h.1.1.1.1.1.1, h.1.1.1.1.1.2, h.1.1.1.1.2, h.1.1.1.2, px_wd_mem h.1.1.2, px_wd_mem h.1.2, px_wd_mem h.2⟩
  | [], h => exact px_no h
  | [_], h => exact px_no h
  | [_, _], h => exact px_no h
  | _ :: _ :: _ :: _ :: _, h => exact px_no h
theorem px_okM3 {c x j n : Nat} {ps : List Nat} {r : px_R} (hj : pt_mt[j]? = some r) (h : px_okM c (x, 3, j, n, ps) = true) : px_okY r n = true ∧ (px_hh r).isEmpty = true ∧ (pt_own c, x, px_y r, "DateHem") ∈ px_nests ∧ Cond.static (px_y r) ∈ wsL_law ∧ Cond.initialized (pt_own (px_cl r)) ∈ wsL_law := by
  match ps, h with
  | [b, d], h =>
    simp only [px_okM, hj, Bool.and_eq_true, decide_eq_true_eq] at h
    exact ⟨h.1.1.1.1, h.1.1.1.2, h.1.1.2, px_wd_mem h.1.2, px_wd_mem h.2⟩
  | [], h => exact px_no h
  | [_], h => exact px_no h
  | _ :: _ :: _ :: _, h => exact px_no h
theorem px_okM4 {c x j n : Nat} {ps : List Nat} {r : px_R} (hj : pt_mt[j]? = some r) (h : px_okM c (x, 4, j, n, ps) = true) : px_okY r n = true ∧ (px_hh r).isEmpty = true ∧ (px_y r).name = "<init>" ∧ px_rt r = none ∧ (pt_own c, x, px_y r, "DateHem") ∈ px_nests ∧ Cond.instanceMethod (px_y r) ∈ wsL_law ∧ Cond.initialized (pt_own (px_cl r)) ∈ wsL_law := by
  match ps, h with
  | [b, d], h =>
    simp only [px_okM, hj, Bool.and_eq_true, decide_eq_true_eq] at h
    exact ⟨h.1.1.1.1.1.1, h.1.1.1.1.1.2, h.1.1.1.1.2, h.1.1.1.2, h.1.1.2, px_wd_mem h.1.2, px_wd_mem h.2⟩
  | [], h => exact px_no h
  | [_], h => exact px_no h
  | _ :: _ :: _ :: _, h => exact px_no h
/-- behind a call that may throw -/
theorem px_after {mc ms pc : Nat} {ls : Array Slot} {st0 rest : List Value} {a : Array Value} {res : Option Value ⊕ String} {h1 : px_H}
    (hr : vx_Run p l e R s m args below meth c H locs cells slots mc ms (F0 m pc ls st0) rest (px_Qc B b cy D res h1 a) (px_XC B b cy D res h1) (fun q : Nat => B ≤ q)) (hS : va_S (fun q : Nat => B ≤ q) s.heap H locs)
    (kk : ∀ v, res = .inl v → ∀ (H1 : Heap) (locs1 : List Loc), px_HR B b cy D h1 H1 → va_S (fun q : Nat => B ≤ q) s.heap H1 locs1 → W p l e R s m args below meth c H1 locs1 (cells + mc) (slots + ms) Q (F0 m (pc + 3) ls ((v.map (px_v B b)).toList ++ rest)))
    (kx : ∀ E, res = .inr E → ∀ (H1 : Heap) (locs1 : List Loc) (ce : Cell) (q : Addr), px_HR B b cy D h1 H1 → va_S (fun q : Nat => B ≤ q) s.heap H1 locs1 → H1[q]? = some ce → ce.vm = .none → s.vm.findClass E = some ce.cls → vx_W p l e R s m args below meth c H1 locs1 (cells + mc) (slots + ms) Q (F0 m pc ls rest) q) :
    W p l e R s m args below meth c H locs cells slots Q (F0 m pc ls st0) := by
  intro T hT X
  rcases hr T hT X with ⟨v, st₀, t, T', L, h0, X', hL, e1, e2, ⟨v', hres, hv, hHR, hF⟩, st⟩ | ⟨q, st₀, t, T', L, E, ce, h0, X', hL, e1, e2, ⟨hres, hHR, hF⟩, hce, hcv, hcl, st⟩
  · cases hv
    obtain ⟨k1, k2, k3⟩ := vx_keep h0 e1 hS (fun q _ h => h) (fun q h => h) hL hF
    obtain ⟨t2, a1, b1⟩ := kk v' hres T'.heap (locs ++ L) (by rw [e1]; exact hHR) k3 T' rfl X'
    exact ⟨t2, st t2 a1, b1⟩
  · obtain ⟨k1, k2, k3⟩ := vx_keep h0 e1 hS (fun q _ h => h) (fun q h => h) hL hF
    obtain ⟨t2, a1, b1⟩ := kx E hres T'.heap (locs ++ L) ce q (by rw [e1]; exact hHR) k3 (by rw [e1]; exact hce) hcv hcl T' rfl X'
    exact ⟨t2, st.trans a1, b1⟩
/-- behind a call that returns -/
theorem px_after2 {mc ms pc : Nat} {ls : Array Slot} {st0 rest : List Value} {a : Array Value} {res : Option Value ⊕ String} {h1 : px_H}
    (hr : va_Run p l e R s m args below meth c H locs cells slots mc ms (F0 m pc ls st0) rest (px_Qc B b cy D res h1 a) (fun q : Nat => B ≤ q)) (hS : va_S (fun q : Nat => B ≤ q) s.heap H locs)
    (kk : ∀ v, res = .inl v → ∀ (H1 : Heap) (locs1 : List Loc), px_HR B b cy D h1 H1 → va_S (fun q : Nat => B ≤ q) s.heap H1 locs1 → W p l e R s m args below meth c H1 locs1 (cells + mc) (slots + ms) Q (F0 m (pc + 3) ls ((v.map (px_v B b)).toList ++ rest))) :
    W p l e R s m args below meth c H locs cells slots Q (F0 m pc ls st0) := by
  intro T hT X
  obtain ⟨v, st₀, t, T', L, h0, X', hL, e1, e2, ⟨v', hres, hv, hHR, hF⟩, st⟩ := hr T hT X
  cases hv
  obtain ⟨k1, k2, k3⟩ := vx_keep h0 e1 hS (fun q _ h => h) (fun q h => h) hL hF
  obtain ⟨t2, a1, b1⟩ := kk v' hres T'.heap (locs ++ L) (by rw [e1]; exact hHR) k3 T' rfl X'
  exact ⟨t2, st t2 a1, b1⟩
theorem px_met_of {y : MethodName} {ws : List Cond} {rm : Room} {Pc : Array Value → State → Prop} {mc ms : Nat} {free : Addr → Prop} {v : Option Value} {h1 : px_H}
    (h : vx_Met l y ws rm Pc (px_Qc B b cy D (.inl v) h1) (px_XC B b cy D (.inl v) h1) mc ms free) : Met l y ws rm Pc (px_Qc B b cy D (.inl v) h1) mc ms free := by
  refine MetFree.mono h (fun _ _ q => q) (fun _ _ _ _ _ q => q) (fun a st o t _ q => ?_)
  rcases q with q | ⟨q, -, E, ce, L, ⟨z, -⟩, -⟩
  · exact q
  · cases z
theorem px_cov {lo hi t x pc : Nat} (h : ¬ (lo ≤ pc ∧ pc < hi)) : covers ⟨lo, hi, t, x⟩ pc = false := by
  simp only [covers, Bool.and_eq_false_iff, decide_eq_false_iff_not]
  by_cases h1 : lo ≤ pc
  · exact Or.inr (fun z => h ⟨h1, z⟩)
  · exact Or.inl h1
theorem px_hh_pos {c0 : Nat} (hE : (pt_E c0).all (px_okE c0) = true) (hz : ∀ q ∈ pt_E c0, q.1 ≠ 0) {x : Nat} {nm : String} {k : Nat} (h : (pt_E c0).lookup x = some (nm, k)) : Cond.classLink (pt_own c0) x nm ∈ wsL_law ∧ x ≠ 0 := ⟨px_wd_mem (List.all_eq_true.mp hE _ (px_look h)), hz _ (px_look h)⟩
/-- a handler takes it -/
theorem px_caught {c0 pc : Nat} {E : String} {ls : Array Slot} {rest : List Value} {ce : Cell} {q : Addr} (hown : s.vm.findClass (pt_own c0) = some m.cls) (hts : ∀ w ∈ wsL_law, w.before args s = true) (hE : (pt_E c0).all (px_okE c0) = true) (hz : ∀ q ∈ pt_E c0, q.1 ≠ 0 ∧ q.2.1 ∈ px_exs)
    (hK9 : ∀ E ∈ px_exs, va_Nw (.castable E E) s) (hK10 : ∀ E ∈ px_exs, ∀ E' ∈ px_exs, E ≠ E' → va_Nc E E' s) (hEx : E ∈ px_exs) (hcell : H[q]? = some ce) (hv : ce.vm = .none) (hcl : s.vm.findClass E = some ce.cls) :
    ∀ (hh : List (Nat × Nat × Nat × Nat)) (pre : List ExceptionTableEntry), c.exceptionTable.toList = pre ++ tableOf hh → (∀ z ∈ pre, covers z pc = false ∨ (z.catchType ≠ 0 ∧ ∃ nm : String, (Cond.classLink (pt_own c0) z.catchType nm).before args s = true ∧ va_Nc E nm s)) →
      ∀ t, px_ha c0 hh pc E = some t → W p l e R s m args below meth c H locs cells slots Q (F0 m t ls [.ref q]) → vx_W p l e R s m args below meth c H locs cells slots Q (F0 m pc ls rest) q := by
  intro hh
  induction hh with
  | nil => intro pre _ _ t ht; cases ht
  | cons w hh ih =>
    obtain ⟨lo, hi, t0, x⟩ := w
    intro pre hsp hpass t ht k
    unfold px_ha at ht
    have hsp2 : c.exceptionTable.toList = (pre ++ [⟨lo, hi, t0, x⟩]) ++ tableOf hh := by rw [hsp]; simp [tableOf]
    split at ht
    · rename_i hcov
      split at ht
      · rename_i nm k9 hlk
        have hw := px_wd_mem (List.all_eq_true.mp hE _ (px_look hlk))
        have hz9 := hz _ (px_look hlk)
        split at ht
        · rename_i hnm
          subst hnm
          cases ht
          exact vx_catch hown pre ⟨lo, hi, t0, x⟩ (tableOf hh) hsp hpass (by simp [covers, hcov.1, hcov.2]) hz9.1 (hts _ hw) (va_Nw.use rfl (hK9 _ hEx)) hcell hv hcl k
        · rename_i hnm
          refine ih _ hsp2 (fun z hz1 => ?_) t ht k
          rcases List.mem_append.mp hz1 with h | h
          · exact hpass z h
          · rw [List.mem_singleton.mp h]
            exact Or.inr ⟨hz9.1, nm, hts _ hw, hK10 _ hEx _ hz9.2 (fun z => hnm z.symm)⟩
      · cases ht
    · rename_i hcov
      refine ih _ hsp2 (fun z hz1 => ?_) t ht k
      rcases List.mem_append.mp hz1 with h | h
      · exact hpass z h
      · rw [List.mem_singleton.mp h]
        exact Or.inl (px_cov hcov)
/-- no handler takes it -/
theorem px_uncaught {c0 pc : Nat} {E : String} (hts : ∀ w ∈ wsL_law, w.before args s = true) (hE : (pt_E c0).all (px_okE c0) = true) (hz : ∀ q ∈ pt_E c0, q.1 ≠ 0 ∧ q.2.1 ∈ px_exs)
    (hK10 : ∀ E ∈ px_exs, ∀ E' ∈ px_exs, E ≠ E' → va_Nc E E' s) (hEx : E ∈ px_exs) :
    ∀ (hh : List (Nat × Nat × Nat × Nat)), (∀ w ∈ hh, ∃ v, (pt_E c0).lookup w.2.2.2 = some v) → px_ha c0 hh pc E = none → ∀ z ∈ tableOf hh, covers z pc = false ∨ (z.catchType ≠ 0 ∧ ∃ nm : String, (Cond.classLink (pt_own c0) z.catchType nm).before args s = true ∧ va_Nc E nm s) := by
  intro hh
  induction hh with
  | nil => intro _ _ z hz; cases hz
  | cons w hh ih =>
    obtain ⟨lo, hi, t0, x⟩ := w
    intro hl ht z hz1
    unfold px_ha at ht
    have hl2 : ∀ w ∈ hh, ∃ v, (pt_E c0).lookup w.2.2.2 = some v := fun w hw => hl w (List.mem_cons_of_mem _ hw)
    split at ht
    · rename_i hcov
      obtain ⟨⟨nm, k9⟩, hlk⟩ := hl _ List.mem_cons_self
      rw [hlk] at ht
      have hw := px_wd_mem (List.all_eq_true.mp hE _ (px_look hlk))
      have hz9 := hz _ (px_look hlk)
      dsimp only at ht
      split at ht
      · cases ht
      · rename_i hnm
        rcases List.mem_cons.mp hz1 with h | h
        · rw [h]
          exact Or.inr ⟨hz9.1, nm, hts _ hw, hK10 _ hEx _ hz9.2 (fun z => hnm z.symm)⟩
        · exact ih hl2 ht z h
    · rename_i hcov
      rcases List.mem_cons.mp hz1 with h | h
      · rw [h]; exact Or.inl (px_cov hcov)
      · exact ih hl2 ht z h
end PXD

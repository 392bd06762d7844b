/-! throws, and the whole run -/
section PXE
variable {p : Program} {l : Launch} {e : Env} {R : Room} {s : State} {m : MethodId} {args : Array Value} {below : List Frame} {meth : Method} {c : Code} {H : Heap} {locs : List Loc} {cells slots : Nat} {Q : State → Prop}
variable {B b S : Nat} {xs : Nat → Int32} {cy : Nat → ClassId} {D : va_G}
def px_ng (E : String) : List Cond := [.castable E E, .declares (Bundle.initS "java/lang/RuntimeException"), .declares (Bundle.initS "java/lang/Exception"), .declares (Bundle.initS Bundle.tN)]
set_option maxRecDepth 100000 in
theorem px_atS_S : (∀ w ∈ (vx_atS RX9 76 "java/lang/IllegalStateException" px_sup).filter (fun w => !goodWord w), w ∈ px_ng "java/lang/IllegalStateException") ∧ (vx_atS RX9 76 "java/lang/IllegalStateException" px_sup).all vx_ot = true := by decide +kernel
set_option maxRecDepth 100000 in
theorem px_atS_A : (∀ w ∈ (vx_atS RX9 89 "java/lang/IllegalArgumentException" px_sup).filter (fun w => !goodWord w), w ∈ px_ng "java/lang/IllegalArgumentException") ∧ (vx_atS RX9 89 "java/lang/IllegalArgumentException" px_sup).all vx_ot = true := by decide +kernel
set_option maxRecDepth 100000 in
theorem px_atS_I : (∀ w ∈ (vx_atS RX9 375 "java/lang/IndexOutOfBoundsException" px_sup).filter (fun w => !goodWord w), w ∈ px_ng "java/lang/IndexOutOfBoundsException") ∧ (vx_atS RX9 375 "java/lang/IndexOutOfBoundsException" px_sup).all vx_ot = true := by decide +kernel
theorem px_throwable {ic : Nat} {E : String} (h : px_icE ic E = true) : E ∈ px_exs ∧ Bundle.fit E = true ∧ Cond.initialized E ∈ wsL_law ∧ (∀ w ∈ (vx_atS RX9 ic E px_sup).filter goodWord, w ∈ wsL_law) ∧ (∀ w ∈ (vx_atS RX9 ic E px_sup).filter (fun w => !goodWord w), w ∈ px_ng E) ∧ (vx_atS RX9 ic E px_sup).all vx_ot = true := by
  simp only [px_icE, decide_eq_true_eq, List.mem_cons, List.not_mem_nil, or_false, Prod.mk.injEq] at h
  rcases h with ⟨rfl, rfl⟩ | ⟨rfl, rfl⟩ | ⟨rfl, rfl⟩
  · exact ⟨by decide +kernel, by decide +kernel, px_wd_mem pt_iniS, fun w h => List.mem_append_left _ (List.mem_append_left _ (List.mem_append_right _ h)), px_atS_S.1, px_atS_S.2⟩
  · exact ⟨by decide +kernel, by decide +kernel, px_wd_mem pt_iniA, fun w h => List.mem_append_left _ (List.mem_append_right _ h), px_atS_A.1, px_atS_A.2⟩
  · exact ⟨by decide +kernel, by decide +kernel, px_wd_mem pt_iniI, fun w h => List.mem_append_right _ h, px_atS_I.1, px_atS_I.2⟩
theorem px_th_of {c0 pc : Nat} {C : px_C} {st : List Value} {E : String} (h : px_th c0 C pc st = some E) : ∃ ik is ic tx, (is, ik, ic, E, tx) ∈ pt_T c0 ∧ (st.map fun v => v.category).sum ≤ 8 ∧ px_at C pc = some (.new ik, 3) ∧ px_at C (pc + 3) = some (.dup, 1) ∧
    ((px_at C (pc + 4) = some (.ldc is, 2) ∧ px_at C (pc + 6) = some (.invokespecial ic, 3) ∧ px_at C (pc + 9) = some (.athrow, 1)) ∨ (px_at C (pc + 4) = some (.ldc_w is, 3) ∧ px_at C (pc + 7) = some (.invokespecial ic, 3) ∧ px_at C (pc + 10) = some (.athrow, 1))) := by
  unfold px_th at h
  split at h
  · rename_i ik is h1 h2 h3
    split at h
    · rename_i ic ik' ic' E' tx h4 h5 h6
      split at h
      · rename_i hc
        obtain ⟨rfl, rfl, hst⟩ := hc
        cases h
        exact ⟨ik, is, ic, tx, px_look h6, hst, h1, h2, Or.inl ⟨h3, h4, h5⟩⟩
      · cases h
    · cases h
  · rename_i ik is h1 h2 h3
    split at h
    · rename_i ic ik' ic' E' tx h4 h5 h6
      split at h
      · rename_i hc
        obtain ⟨rfl, rfl, hst⟩ := hc
        cases h
        exact ⟨ik, is, ic, tx, px_look h6, hst, h1, h2, Or.inr ⟨h3, h4, h5⟩⟩
      · cases h
    · cases h
  · cases h
theorem px_thE {c0 pc : Nat} {C : px_C} {st : List Value} {E : String} (h : px_th c0 C pc st = some E) : E ∈ px_exs := by
  obtain ⟨ik, is, ic, tx, hm, -⟩ := px_th_of h
  have ho := List.all_eq_true.mp (pt_okT c0) _ hm
  simp only [px_okT, Bool.and_eq_true] at ho
  exact (px_throwable ho.1.2).1
theorem px_exE {S : Nat} {xs : Nat → Int32} : ∀ (n k pc : Nat) (L : px_L) (st : List Value) (h : px_H) (E : String) (h' : px_H), px_ex S xs n k pc L st h = some (.inr E, h') → E ∈ px_exs := by
  intro n
  induction n with
  | zero => intro k pc L st h E h' he; cases he
  | succ n ih =>
    intro k pc L st h E h' he
    unfold px_ex at he
    split at he
    · cases he
    split at he
    · cases he
    split at he
    · exact ih _ _ _ _ _ _ _ he
    split at he
    · exact ih _ _ _ _ _ _ _ he
    split at he
    · split at he
      · exact ih _ _ _ _ _ _ _ he
      · cases he
    split at he
    · cases he
    split at he
    · split at he
      · cases he
      split at he
      · cases he
      split at he
      · cases he
      · exact ih _ _ _ _ _ _ _ he
      · rename_i h1 hc
        split at he
        · cases he
        split at he
        · cases he; exact ih _ _ _ _ _ _ _ hc
        split at he
        · cases he
        · exact ih _ _ _ _ _ _ _ he
    split at he
    · rename_i hth
      split at he
      · cases he; exact px_thE hth
      · cases he
    split at he
    · exact ih _ _ _ _ _ _ _ he
    · cases he
theorem px_at_mem {C : px_C} {pc : Nat} {q : ClassFile.Instr × Nat} (h : px_at C pc = some q) : ∃ cc ∈ C, (pc, q) ∈ cc := by
  unfold px_at at h
  cases hc : C[pc / 32]? with
  | none => rw [hc] at h; cases h
  | some cc =>
    rw [hc] at h
    exact ⟨cc, List.mem_of_getElem? hc, px_look h⟩
/-- what holds inside a method -/
def px_In (B b S : Nat) (xs : Nat → Int32) (cy : Nat → ClassId) (D : va_G) (p : Program) (l : Launch) (s : State) (m : MethodId) (args : Array Value) (meth : Method) (c : Code) (r : px_R) : Prop :=
  p.tables.exec = Jvm.exec ∧ c.code = px_b r ∧ c.maxLocals = px_mx r ∧ meth.sig.returnType = px_rt r ∧ meth.locks = false ∧ s.vm.findClass (pt_own (px_cl r)) = some m.cls ∧ (∀ w ∈ wsL_law, w.before args s = true) ∧ px_K B b S xs cy D s ∧ c.exceptionTable.toList = tableOf (px_hh r) ∧ ((px_y r).name = "<init>" → meth.name = "<init>") ∧ l.stackTraces = false
theorem px_dec {r : px_R} (hr : px_sure r) {pc : Nat} {i : ClassFile.Instr} {len : Nat} (h : px_at (px_co r) pc = some (i, len)) : decode (px_b r) pc = Except.ok (i, len) := by
  obtain ⟨cc, h1, h2⟩ := px_at_mem h
  exact hr.1 cc h1 (pc, (i, len)) h2
theorem px_row {r : px_R} (hr : px_sure r) {pc : Nat} {i : ClassFile.Instr} {len : Nat} (h : px_at (px_co r) pc = some (i, len)) : px_lenOk i len = true ∧ px_rk r i = true := by
  obtain ⟨cc, h1, h2⟩ := px_at_mem h
  have h3 := hr.2
  simp only [px_okR, Bool.and_eq_true] at h3
  have h4 := List.all_eq_true.mp (List.all_eq_true.mp h3.1.1.1.2 _ h1) _ h2
  simpa only [Bool.and_eq_true] using h4
theorem px_wthrow {r : px_R} {pc : Nat} {ls : Array Slot} {st : List Value} {E : String} {h : px_H} {Qc : Array Value → State → Outcome → State → Prop} {XC : String → State → State → Prop} (hin : px_In B b S xs cy D p l s m args meth c r) (hr : px_sure r) (hfr : px_fr r ≤ R.frames) (hlo : px_lo r ≤ R.locals) (hh0 : (px_hh r).isEmpty = true)
    (hth : px_th (px_cl r) (px_co r) pc st = some E) (hsize : ls.size = c.maxLocals) (hHR : px_HR B b cy D h H) (hS : va_S (fun q : Nat => B ≤ q) s.heap H locs) (hc1 : cells + 1 ≤ R.cells) (hc2 : slots + 6 ≤ R.slots)
    (hx9 : ∀ t : State, s.vm.Alike t.vm → px_HR B b cy D h t.heap → va_F (fun q : Nat => B ≤ q) s t → XC E s t) : W p l e R s m args below meth c H locs cells slots (vx_MQ below Qc XC args s R.cells R.slots (fun q : Nat => B ≤ q)) (F0 m pc ls (st.map (px_v B b))) := by
  obtain ⟨hx, hb, hml, hrt, hlocks, hown, hts, hK, htab, hini, hst⟩ := hin
  obtain ⟨hKk, hAO, hX, hbB, hBs, hU, hN, hNe, hCa, hNc, hStr, hDe⟩ := hK
  obtain ⟨ik, is, ic, tx, hm, hsum, h0, h3, hrest⟩ := px_th_of hth
  have ho := List.all_eq_true.mp (pt_okT _) _ hm
  simp only [px_okT, Bool.and_eq_true, decide_eq_true_eq] at ho
  obtain ⟨⟨hc9, hic⟩, hlk⟩ := ho
  obtain ⟨hEx, hfit, hiniE, hgw, hng, hot⟩ := px_throwable hic
  obtain ⟨sa, hsa⟩ := hStr _ _ hm
  cases hlE : (pt_E (px_cl r)).lookup ik with
  | none => rw [hlE] at hlk; cases hlk
  | some q =>
    obtain ⟨nm, kq⟩ := q
    rw [hlE] at hlk
    have hnm : nm = E := of_decide_eq_true hlk
    subst hnm
    have hcl := px_wd_mem (List.all_eq_true.mp (pt_okE (px_cl r)) _ (px_look hlE))
    have hat : ∀ w ∈ vx_atS (pt_own (px_cl r)) ic nm px_sup, w.before args s = true := by
      rw [hc9]
      exact vx_hat (fun w hw => hts w (hgw w hw)) hng (vx_c (va_Nw.use rfl (hCa _ hEx)) (vx_c (va_Nw.use rfl (hDe _ (by simp [px_decl]))) (vx_c (va_Nw.use rfl (hDe _ (by simp [px_decl]))) (vx_c (va_Nw.use rfl (hDe _ (by simp [px_decl]))) vx_n))))
    have hrk := (px_row hr h0).2
    simp only [px_rk, hlE, Bool.and_eq_true, decide_eq_true_eq] at hrk
    have hout : ∀ x ∈ c.exceptionTable.toList, False := by
      rw [htab, List.isEmpty_iff.mp hh0]
      intro x hx; cases hx
    have hgood : ∀ w ∈ Cond.classLink (pt_own (px_cl r)) ik nm :: Cond.initialized nm :: vx_atS (pt_own (px_cl r)) ic nm px_sup, vx_ot w = true := by
      intro w hw
      rcases List.mem_cons.mp hw with h | hw
      · rw [h]; rfl
      rcases List.mem_cons.mp hw with h | hw
      · rw [h]; rfl
      · rw [hc9] at hw
        exact List.all_eq_true.mp hot _ hw
    have hxx : ∀ t : State, s.vm.Alike t.vm → H.size ≤ t.heap.size → (∀ q : Nat, q < H.size → t.heap[q]? = H[q]?) → XC nm s t := by
      intro t h1 h2 h4
      have hHR9 : va_P D vwCl (px_w B b cy h.1) H := hHR
      exact hx9 t h1 (hHR9.kept (fun k x hx => h4 _ (hHR9 k x hx).lt)) ⟨Nat.le_trans hS.1 h2, fun q h5 h6 => (h4 q (Nat.lt_of_lt_of_le h5 hS.1)).trans (hS.2.1 q h5 h6)⟩
    have hsup : ∀ n ∈ px_sup, Bundle.fit n = true := by decide +kernel
    rcases hrest with ⟨h4, h6, h9⟩ | ⟨h4, h7, h10⟩
    · exact vx_throwS (cls := nm) (text := tx) (names := px_sup) (A := fun q : Nat => B ≤ q) hx hb hst hown hfit hsup (hts _ hcl) (hts _ hiniE) hsa hat hgood hU hN hS hsize (px_dec hr h0) (px_dec hr h3) (px_dec hr h4) (px_dec hr h6) (px_dec hr h9) (fun x hx => (hout x hx).elim)
        (by show 2 + 3 < R.frames; omega) (by rw [px_cats]; show _ + (13 * (2 + 1) + 43) ≤ _; omega) hc1 hc2 hlocks hxx hS.2.2 hc1 hc2
    · exact vx_throwSW (cls := nm) (text := tx) (names := px_sup) (A := fun q : Nat => B ≤ q) hx hb hst hown hfit hsup (hts _ hcl) (hts _ hiniE) hsa hat hgood hU hN hS hsize (px_dec hr h0) (px_dec hr h3) (px_dec hr h4) (px_dec hr h7) (px_dec hr h10) (fun x hx => (hout x hx).elim)
        (by show 2 + 3 < R.frames; omega) (by rw [px_cats]; show _ + (13 * (2 + 1) + 43) ≤ _; omega) hc1 hc2 hlocks hxx hS.2.2 hc1 hc2
end PXE

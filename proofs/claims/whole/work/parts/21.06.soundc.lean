/-! THE PURE MACHINE IS THE MACHINE: whole runs -/
section PXM
/-- what a run does to the counts -/
def px_le (h h' : px_H) : Prop := px_cnt h ≤ px_cnt h' ∧ h.2.2.1 ≤ h'.2.2.1 ∧ (h'.2.2.2 = true → h.2.2.2 = true ∧ h'.2.1 = h.2.1)
theorem px_le.rf (h : px_H) : px_le h h := ⟨Nat.le_refl _, Nat.le_refl _, fun z => ⟨z, rfl⟩⟩
theorem px_le.tr {a b d : px_H} (h1 : px_le a b) (h2 : px_le b d) : px_le a d := ⟨Nat.le_trans h1.1 h2.1, Nat.le_trans h1.2.1 h2.2.1, fun z => ⟨(h1.2.2 (h2.2.2 z).1).1, (h2.2.2 z).2.trans (h1.2.2 (h2.2.2 z).1).2⟩⟩
theorem px_le.set (h : px_H) (a : Nat) (e9 : va_E) : px_le h (h.1.set a e9, h.2) := ⟨by simp [px_cnt], Nat.le_refl _, fun z => ⟨z, rfl⟩⟩
theorem px_le.push {h : px_H} {e9 : va_E} {n : Nat} {f : Bool} (hf : h.2.2.2 = true) (hn : h.2.2.1 ≤ n) : px_le h (h.1 ++ [e9], h.2.1, n, f) := ⟨by simp only [px_cnt, List.length_append, List.length_cons, List.length_nil]; omega, hn, fun _ => ⟨hf, rfl⟩⟩
theorem px_le.push2 {h : px_H} {e9 : va_E} {n : Nat} {f : Bool} {P : Prop} (hf : h.2.2.2 = true ∧ P) (hn : h.2.2.1 ≤ n) : px_le h (h.1 ++ [e9], h.2.1, n, f) := px_le.push hf.1 hn
set_option maxHeartbeats 4000000 in
theorem px_hp_le {c S : Nat} {ini : Bool} {xs : Nat → Int32} {i : ClassFile.Instr} {st st' : List Value} {h h' : px_H} (hh : px_hp c ini S xs i st h = some (st', h')) : px_le h h' := by
  unfold px_hp at hh
  split at hh
  · split at hh
    · split at hh
      · obtain ⟨v, -, e1⟩ := Option.map_eq_some_iff.mp hh
        cases e1
        exact px_le.rf _
      · cases hh
    · cases hh
  all_goals (repeat' split at hh)
  all_goals first
    | (cases hh; done)
    | (cases hh; exact px_le.rf _)
    | (cases hh; exact px_le.set _ _ _)
    | (rename_i hf; cases hh; exact px_le.push hf (Nat.le_add_right ..))
    | (rename_i hf; cases hh; exact px_le.push hf.1 (Nat.le_add_right ..))
    | (cases hh; apply px_le.push2 (by assumption); exact Nat.le_add_right ..)
set_option maxHeartbeats 4000000 in
theorem px_mono {S : Nat} {xs : Nat → Int32} : ∀ (n k pc : Nat) (L : px_L) (st : List Value) (h : px_H) (res : Option Value ⊕ String) (h' : px_H), px_ex S xs n k pc L st h = some (res, h') → px_le h h' := by
  intro n
  induction n with
  | zero => intro k pc L st h res h' he; cases he
  | succ n ih =>
    intro k pc L st h res h' he
    unfold px_ex at he
    split at he
    · cases he
    split at he
    · cases he
    split at he
    · exact ih _ _ _ _ _ _ _ he
    split at he
    · exact ih _ _ _ _ _ _ _ he
    split at he
    · split at he
      · exact ih _ _ _ _ _ _ _ he
      · cases he
    split at he
    · cases he; exact px_le.rf _
    split at he
    · split at he
      · cases he
      split at he
      · cases he
      split at he
      · cases he
      · rename_i h1 hc
        exact (ih _ _ _ _ _ _ _ hc).tr (ih _ _ _ _ _ _ _ he)
      · rename_i h1 hc
        split at he
        · cases he
        split at he
        · cases he; exact ih _ _ _ _ _ _ _ hc
        split at he
        · cases he
        · exact (ih _ _ _ _ _ _ _ hc).tr (ih _ _ _ _ _ _ _ he)
    split at he
    · split at he
      · cases he
        exact ⟨by simp only [px_cnt]; omega, by dsimp only; omega, fun z => by cases z⟩
      · cases he
    split at he
    · rename_i hp
      exact (px_hp_le hp).tr (ih _ _ _ _ _ _ _ he)
    · cases he
end PXM
section PXC
def px_decl : List String := ["java/lang/RuntimeException", "java/lang/Exception", Bundle.tN]
/-- what is given of the state, at a method's start -/
def px_K (B b S : Nat) (xs : Nat → Int32) (cy : Nat → ClassId) (D : va_G) (U : State) : Prop :=
  va_K D vwCl (px_tys cy) U ∧ (∀ C ∈ [RX2, RX7, RX5], va_AO C U) ∧ va_X b S xs U U.heap ∧ b < B ∧ B ≤ U.heap.size ∧
  vx_Zq Bundle.tN "UNASSIGNED_STACK" Bundle.steD (fun q : Nat => B ≤ q) U U.heap ∧ vx_Zq Bundle.tN "SUPPRESSED_SENTINEL" Bundle.listD (fun q : Nat => B ≤ q) U U.heap ∧
  (∀ q ∈ px_nests, va_Nw (.methodLinkNest q.1 q.2.1 q.2.2.1 q.2.2.2) U) ∧ (∀ E ∈ px_exs, va_Nw (.castable E E) U) ∧ (∀ E ∈ px_exs, ∀ E' ∈ px_exs, E ≠ E' → va_Nc E E' U) ∧
  (∀ c : Nat, ∀ q ∈ pt_T c, ∃ sa : Nat, vk_R (pt_own c) q.1 q.2.2.2.2 sa U) ∧ (∀ Y ∈ px_decl, va_Nw (.declares (Bundle.initS Y)) U)
theorem px_K.moved {B b S : Nat} {xs : Nat → Int32} {cy : Nat → ClassId} {D : va_G} {s U : State} (hW : s.WarmedH U.vm) (hF : s.heap.size ≤ U.heap.size ∧ ∀ q : Nat, q < s.heap.size → ¬ B ≤ q → U.heap[q]? = s.heap[q]?) (h : px_K B b S xs cy D s) : px_K B b S xs cy D U := by
  obtain ⟨h1, h2, h3, h4, h5, h6, h7, h8, h9, h10, h11, h12⟩ := h
  refine ⟨h1.moved hW.alike, fun C hC => (h2 C hC).moved hW.alike, (h3.moved hW.alike).kept (hF.2 b (Nat.lt_of_lt_of_le h4 h5) (Nat.not_le.mpr h4)), h4, Nat.le_trans h5 hF.1, (h6.moved hW.alike).kept hF.2, (h7.moved hW.alike).kept hF.2, fun q hq => va_Nw.warmM hW (h8 q hq), fun E hE => va_Nw.warmC hW (h9 E hE), fun E hE E' hE' hn => (h10 E hE E' hE' hn).moved hW.alike, fun c q hq => ?_, fun Y hY => va_Nw.warmD hW (h12 Y hY)⟩
  obtain ⟨sa, hsa⟩ := h11 c q hq
  exact ⟨sa, hsa.warm hW⟩
def px_ws (r : px_R) : List Cond := px_head r :: wsL_law
def px_rm (r : px_R) (mc ms : Nat) : Room := { frames := px_fr r, cells := mc, slots := ms, locals := px_lo r }
def px_Pc (B b S : Nat) (xs : Nat → Int32) (cy : Nat → ClassId) (D : va_G) (As : List Value) (h : px_H) : Array Value → State → Prop := va_Pc (As.map (px_v B b)) (fun U => px_HR B b cy D h U.heap ∧ px_K B b S xs cy D U ∧ (h.2.2.2 = true → U.heap.size ≤ B + h.1.length))
def px_Qc (B b : Nat) (cy : Nat → ClassId) (D : va_G) (res : Option Value ⊕ String) (h1 : px_H) : Array Value → State → Outcome → State → Prop := fun _ st oc t => ∃ v, res = Sum.inl v ∧ oc = .returned (v.map (px_v B b)) ∧ px_HR B b cy D h1 t.heap ∧ va_F (fun q : Nat => B ≤ q) st t
def px_XC (B b : Nat) (cy : Nat → ClassId) (D : va_G) (res : Option Value ⊕ String) (h1 : px_H) : String → State → State → Prop := fun E st t => res = Sum.inr E ∧ px_HR B b cy D h1 t.heap ∧ va_F (fun q : Nat => B ≤ q) st t
theorem px_Pc.blind {B b S : Nat} {xs : Nat → Int32} {cy : Nat → ClassId} {D : va_G} {As : List Value} {h : px_H} : FrameBlind (px_Pc B b S xs cy D As h) := fun a U g mk q =>
  ⟨q.1, q.2.1, px_K.moved (s := U) (U := U.calling g mk a) (State.WarmedH.refl U) ⟨Nat.le_refl _, fun _ _ _ => rfl⟩ q.2.2.1, q.2.2.2⟩
theorem px_lawgood : ∀ w ∈ wsL_law, goodWord w = true := by
  intro w hw
  rcases List.mem_append.mp hw with h | h
  · rcases List.mem_append.mp h with h | h
    · rcases List.mem_append.mp h with h | h
      · rcases (wsL_law_g0 w h).2 with h2 | ⟨ty, rfl⟩
        · cases w <;> first | rfl | exact h2
        · rfl
      · exact (List.mem_filter.mp h).2
    · exact (List.mem_filter.mp h).2
  · exact (List.mem_filter.mp h).2
theorem px_good {ws : List Cond} (h : ∀ w ∈ ws, w ∈ wsL_law) : GoodIn wsL_law ws := fun w hw => ⟨h w hw, good_of_word (px_lawgood w (h w hw))⟩
end PXC

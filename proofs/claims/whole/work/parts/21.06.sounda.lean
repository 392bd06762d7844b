/-! THE PURE MACHINE IS THE MACHINE: values, locals, the instructions of the stack, loads and stores, jumps -/
section PXA
/-- a value of the pure machine, where its cells lie from B on and the script at b -/
def px_v (B b : Nat) (v : Value) : Value := match v with
  | .ref a => .ref (B + a)
  | .retAddr _ => .ref b
  | v => v
theorem px_cat (B b : Nat) (v : Value) : (px_v B b v).category = v.category := by cases v <;> rfl
theorem px_cats (B b : Nat) (l : List Value) : ((l.map (px_v B b)).map fun v => v.category) = l.map fun v => v.category := by
  induction l with
  | nil => rfl
  | cons v l ih => simp only [List.map_cons, px_cat, ih]
/-- the locals -/
def px_LR (B b : Nat) (ls : Array Slot) (L : px_L) : Prop := ls.size = L.length ∧ lv_wf ls ∧ ∀ (i : Nat) (v : Value), L[i]? = some (some v) → ls[i]? = some (.val (px_v B b v))
def px_as (B b : Nat) (L : px_L) : List (Nat × Value) := (List.range L.length).filterMap (fun i => match L[i]? with
  | some (some v) => some (i, px_v B b v)
  | _ => none)
theorem px_as_mem {B b : Nat} {L : px_L} {i : Nat} {v : Value} (h : L[i]? = some (some v)) : (i, px_v B b v) ∈ px_as B b L := by
  refine List.mem_filterMap.mpr ⟨i, List.mem_range.mpr (List.getElem?_eq_some_iff.mp h).1, ?_⟩
  simp only [h]
theorem px_as_of {B b : Nat} {L : px_L} {q : Nat × Value} (h : q ∈ px_as B b L) : ∃ v, L[q.1]? = some (some v) ∧ q.2 = px_v B b v := by
  obtain ⟨i, -, hi⟩ := List.mem_filterMap.mp h
  split at hi
  · rename_i v hv
    cases hi
    exact ⟨v, hv, rfl⟩
  · cases hi
theorem px_LR.has {B b : Nat} {ls : Array Slot} {L : px_L} (h : px_LR B b ls L) : lv_has ls L.length (px_as B b L) := by
  refine ⟨h.1, h.2.1, fun q hq => ?_⟩
  obtain ⟨v, h1, h2⟩ := px_as_of hq
  rw [h2]
  exact h.2.2 _ _ h1
theorem px_get_of {L : px_L} {i : Nat} {v : Value} (hv : px_get L i = some v) : L[i]? = some (some v) := by
  unfold px_get at hv
  cases hx : L[i]? with
  | none => rw [hx] at hv; cases hv
  | some o =>
    rw [hx] at hv
    cases o with
    | none => cases hv
    | some w => cases hv; rfl
theorem px_LR.at {B b : Nat} {ls : Array Slot} {L : px_L} (h : px_LR B b ls L) {i : Nat} {v : Value} (hv : px_get L i = some v) : ls[i]? = some (.val (px_v B b v)) := by
  exact h.2.2 i v (px_get_of hv)
theorem px_LR.set1 {B b : Nat} {ls' : Array Slot} {L : px_L} {i : Nat} {v : Value} (hc : px_c2 L i = true)
    (h : lv_has ls' L.length ((i, px_v B b v) :: (px_as B b L).filter (fun q => !(q.1 == i) && !(q.1 + 1 == i && q.2.category == 2)))) : px_LR B b ls' (L.set i (some v)) := by
  refine ⟨by rw [List.length_set]; exact h.1, h.2.1, fun j w hw => ?_⟩
  by_cases hj : j = i
  · subst hj
    rw [List.getElem?_set] at hw
    split at hw
    · split at hw
      · cases hw
        exact h.2.2 _ List.mem_cons_self
      · cases hw
    · exact absurd rfl ‹_›
  · rw [List.getElem?_set_ne (fun e => hj e.symm)] at hw
    refine h.2.2 (j, px_v B b w) (List.mem_cons_of_mem _ (List.mem_filter.mpr ⟨px_as_mem hw, ?_⟩))
    have h1 : (j == i) = false := by simpa using hj
    simp only [h1, Bool.not_false, Bool.true_and, Bool.not_eq_true', Bool.and_eq_false_iff, beq_eq_false_iff_ne, ne_eq]
    by_cases h2 : j + 1 = i
    · right
      subst h2
      simp only [px_c2, hw, Option.getD_some, decide_eq_true_eq] at hc
      rw [px_cat]
      omega
    · exact Or.inl h2
theorem px_LR.set2 {B b : Nat} {ls' : Array Slot} {L : px_L} {i : Nat} {v : Value} (hc : px_c2 L i = true) (hi : i + 1 < L.length)
    (h : lv_has ls' L.length ((i, px_v B b v) :: (px_as B b L).filter (fun q => !(q.1 == i) && (!(q.1 == i + 1) && !(q.1 + 1 == i && q.2.category == 2))))) : px_LR B b ls' ((L.set i (some v)).set (i + 1) none) := by
  refine ⟨by rw [List.length_set, List.length_set]; exact h.1, h.2.1, fun j w hw => ?_⟩
  by_cases hk : j = i + 1
  · subst hk
    rw [List.getElem?_set_self (by rw [List.length_set]; exact hi)] at hw
    cases hw
  rw [List.getElem?_set_ne (fun e => hk e.symm)] at hw
  by_cases hj : j = i
  · subst hj
    rw [List.getElem?_set_self (by omega)] at hw
    cases hw
    exact h.2.2 _ List.mem_cons_self
  · rw [List.getElem?_set_ne (fun e => hj e.symm)] at hw
    refine h.2.2 (j, px_v B b w) (List.mem_cons_of_mem _ (List.mem_filter.mpr ⟨px_as_mem hw, ?_⟩))
    have h1 : (j == i) = false := by simpa using hj
    have h3 : (j == i + 1) = false := by simpa using hk
    simp only [h1, h3, Bool.not_false, Bool.true_and, Bool.not_eq_true', Bool.and_eq_false_iff, beq_eq_false_iff_ne, ne_eq]
    by_cases h2 : j + 1 = i
    · right
      subst h2
      simp only [px_c2, hw, Option.getD_some, decide_eq_true_eq] at hc
      rw [px_cat]
      omega
    · exact Or.inl h2
variable {p : Program} {l : Launch} {e : Env} {R : Room} {s : State} {m : MethodId} {args : Array Value} {below : List Frame} {meth : Method} {c : Code} {H : Heap} {locs : List Loc} {cells slots : Nat} {Q : State → Prop}
variable {cc : ByteArray} {B b pc len : Nat} {i : ClassFile.Instr} {ls : Array Slot} {L L' : px_L} {st st' : List Value}
set_option maxHeartbeats 4000000 in
theorem px_wop (hx : p.tables.exec = Jvm.exec) (hb : c.code = cc) (hd : decode cc pc = .ok (i, len)) (hl : len = px_len i) (h : px_op i st = some st')
    (k : W p l e R s m args below meth c H locs cells slots Q (F0 m (pc + len) ls (st'.map (px_v B b)))) : W p l e R s m args below meth c H locs cells slots Q (F0 m pc ls (st.map (px_v B b))) := by
  subst hl
  unfold px_op at h
  split at h
  · cases h; exact lv_iconst hx hb hd rfl k
  · cases h; exact lv_bipush hx hb hd rfl k
  · cases h; exact lv_sipush hx hb hd rfl k
  · cases h; exact lv_lconst hx hb hd rfl k
  · cases h; exact lv_iadd hx hb hd k
  · cases h; exact lv_isub hx hb hd k
  · cases h; exact lv_imul hx hb hd k
  · cases h; exact lv_iand hx hb hd k
  · cases h; exact lv_ixor hx hb hd k
  · split at h
    · cases h
    · rename_i hne; cases h; exact lv_idiv hx hb hd hne k
  · split at h
    · cases h
    · rename_i hne; cases h; exact lv_irem hx hb hd hne k
  · cases h; exact lv_ineg hx hb hd k
  · cases h; exact lv_ishr hx hb hd k
  · cases h; exact lv_iushr hx hb hd rfl k
  · cases h; exact lv_land hx hb hd k
  · cases h; exact lv_lor hx hb hd k
  · cases h; exact lv_lshl hx hb hd rfl k
  · cases h; exact lv_lshr hx hb hd rfl k
  · cases h; exact lv_lushr hx hb hd rfl k
  · cases h; exact lv_i2l hx hb hd rfl k
  · cases h; exact lv_l2i hx hb hd rfl k
  · cases h; exact lv_i2b hx hb hd rfl k
  · cases h; exact W.lcmp hx hb hd k
  · split at h
    · rename_i hc; cases h; exact lv_dup hx hb hd (by rw [px_cat]; exact hc) k
    · cases h
  · split at h
    · rename_i hc; cases h; exact lv_pop hx hb hd (by rw [px_cat]; exact hc) k
    · cases h
  · split at h
    · rename_i hc; cases h; exact lv_dup2_11 hx hb hd (by rw [px_cat]; exact hc.1) (by rw [px_cat]; exact hc.2) k
    · cases h
  · cases h; exact lv_i2d hx hb hd k
  · cases h; exact lv_i2f hx hb hd k
  · split at h
    · rename_i hc; cases h; exact lv_ddiv hx hb hd hc k
    · cases h
  · split at h
    · rename_i hc; cases h; exact lv_fdiv hx hb hd hc k
    · cases h
  · split at h
    · rename_i hc; cases h; exact lv_f2d hx hb hd hc k
    · cases h
  · cases h; exact lv_dcmp hx hb hd k
  · cases h; exact lv_fcmp hx hb hd k
  · cases h; exact lv_fconst0 hx hb hd k
  · cases h
theorem px_st1_of {L L' : px_L} {i : Nat} {v : Value} (h : px_st1 L i v = some L') : i < L.length ∧ px_c2 L i = true ∧ L' = L.set i (some v) := by
  unfold px_st1 at h
  split at h
  · rename_i hc; cases h; exact ⟨hc.1, hc.2.1, rfl⟩
  · cases h
theorem px_st2_of {L L' : px_L} {i : Nat} {v : Value} (h : px_st2 L i v = some L') : i + 1 < L.length ∧ px_c2 L i = true ∧ L' = (L.set i (some v)).set (i + 1) none := by
  unfold px_st2 at h
  split at h
  · rename_i hc; cases h; exact ⟨hc.1, hc.2.1, rfl⟩
  · cases h
set_option maxHeartbeats 4000000 in
theorem px_wls (hx : p.tables.exec = Jvm.exec) (hb : c.code = cc) (hd : decode cc pc = .ok (i, len)) (hl : len = px_len i) (hL : px_LR B b ls L) (h : px_ls i L st = some (L', st'))
    (k : ∀ ls' : Array Slot, px_LR B b ls' L' → L'.length = L.length → W p l e R s m args below meth c H locs cells slots Q (F0 m (pc + len) ls' (st'.map (px_v B b)))) : W p l e R s m args below meth c H locs cells slots Q (F0 m pc ls (st.map (px_v B b))) := by
  subst hl
  have s1 : ∀ {n : Nat} {v : Value}, px_st1 L n v = some L' → n < L.length ∧ ∀ ls' : Array Slot, lv_has ls' L.length ((n, px_v B b v) :: (px_as B b L).filter (fun q => !(q.1 == n) && !(q.1 + 1 == n && q.2.category == 2))) → px_LR B b ls' L' ∧ L'.length = L.length := by
    intro n v hs
    obtain ⟨h1, h2, rfl⟩ := px_st1_of hs
    exact ⟨h1, fun ls' h' => ⟨px_LR.set1 h2 h', List.length_set ..⟩⟩
  have s2 : ∀ {n : Nat} {v : Value}, px_st2 L n v = some L' → n + 1 < L.length ∧ ∀ ls' : Array Slot, lv_has ls' L.length ((n, px_v B b v) :: (px_as B b L).filter (fun q => !(q.1 == n) && (!(q.1 == n + 1) && !(q.1 + 1 == n && q.2.category == 2)))) → px_LR B b ls' L' ∧ L'.length = L.length := by
    intro n v hs
    obtain ⟨h1, h2, rfl⟩ := px_st2_of hs
    exact ⟨h1, fun ls' h' => ⟨px_LR.set2 h2 h1 h', by rw [List.length_set, List.length_set]⟩⟩
  have mp : ∀ {o : Option px_L} {st0 : List Value}, o.map (fun L => (L, st0)) = some (L', st') → o = some L' ∧ st0 = st' := by
    intro o st0 ho
    cases o with
    | none => cases ho
    | some x => cases ho; exact ⟨rfl, rfl⟩
  unfold px_ls at h
  split at h
  · split at h
    · rename_i hg; cases h; exact lv_iload_n hx hb hd rfl (hL.at hg) (k _ hL rfl)
    · cases h
  · split at h
    · rename_i hg; cases h; exact lv_iload hx hb hd (hL.at hg) (k _ hL rfl)
    · cases h
  · split at h
    · rename_i hg; cases h; exact lv_lload_n hx hb hd rfl (hL.at hg) (k _ hL rfl)
    · cases h
  · split at h
    · rename_i hg; cases h; exact lv_lload hx hb hd (hL.at hg) (k _ hL rfl)
    · cases h
  · split at h
    · rename_i hg; cases h; exact lv_fload hx hb hd (hL.at hg) (k _ hL rfl)
    · cases h
  · split at h
    · rename_i hg; cases h; exact lv_dload hx hb hd (hL.at hg) (k _ hL rfl)
    · cases h
  · split at h
    · rename_i hg; cases h; exact lv_aload_n hx hb hd rfl (hL.at hg) (k _ hL rfl)
    · rename_i hg; cases h; exact lv_aload_n hx hb hd rfl (hL.at hg) (k _ hL rfl)
    · cases h
  · split at h
    · rename_i hg; cases h; exact lv_aload hx hb hd (hL.at hg) (k _ hL rfl)
    · rename_i hg; cases h; exact lv_aload hx hb hd (hL.at hg) (k _ hL rfl)
    · cases h
  · obtain ⟨h1, rfl⟩ := mp h; obtain ⟨h2, h3⟩ := s1 h1; exact lv_istore_n hx hb hd rfl hL.has h2 rfl (fun ls' h' => k ls' (h3 ls' h').1 (h3 ls' h').2)
  · obtain ⟨h1, rfl⟩ := mp h; obtain ⟨h2, h3⟩ := s1 h1; exact lv_istore hx hb hd hL.has h2 rfl (fun ls' h' => k ls' (h3 ls' h').1 (h3 ls' h').2)
  · obtain ⟨h1, rfl⟩ := mp h; obtain ⟨h2, h3⟩ := s2 h1; exact lv_lstore_n hx hb hd rfl hL.has h2 rfl (fun ls' h' => k ls' (h3 ls' h').1 (h3 ls' h').2)
  · obtain ⟨h1, rfl⟩ := mp h; obtain ⟨h2, h3⟩ := s2 h1; exact lv_lstore hx hb hd hL.has h2 rfl (fun ls' h' => k ls' (h3 ls' h').1 (h3 ls' h').2)
  · obtain ⟨h1, rfl⟩ := mp h; obtain ⟨h2, h3⟩ := s1 h1; exact lv_fstore hx hb hd hL.has h2 rfl (fun ls' h' => k ls' (h3 ls' h').1 (h3 ls' h').2)
  · obtain ⟨h1, rfl⟩ := mp h; obtain ⟨h2, h3⟩ := s2 h1; exact lv_dstore hx hb hd hL.has h2 rfl (fun ls' h' => k ls' (h3 ls' h').1 (h3 ls' h').2)
  · obtain ⟨h1, rfl⟩ := mp h; obtain ⟨h2, h3⟩ := s1 h1; exact lv_astore_n hx hb hd rfl hL.has h2 rfl (fun ls' h' => k ls' (h3 ls' h').1 (h3 ls' h').2)
  · obtain ⟨h1, rfl⟩ := mp h; obtain ⟨h2, h3⟩ := s1 h1; exact lv_astore hx hb hd hL.has h2 rfl (fun ls' h' => k ls' (h3 ls' h').1 (h3 ls' h').2)
  · split at h
    · rename_i hg
      obtain ⟨h1, rfl⟩ := mp h
      obtain ⟨h2, h3⟩ := s1 h1
      obtain ⟨q, hq⟩ := List.getElem?_of_mem (px_as_mem (B := B) (b := b) (px_get_of hg))
      exact lv_iinc hx hb hd hL.has hq rfl h2 rfl (fun ls' h' => k ls' (h3 ls' h').1 (h3 ls' h').2)
    · cases h
  · cases h
set_option maxHeartbeats 4000000 in
theorem px_wjp (hx : p.tables.exec = Jvm.exec) (hb : c.code = cc) (hd : decode cc pc = .ok (i, len)) (hl : len = px_len i ∨ ∃ d lo hi offs, i = .tableswitch d lo hi offs) {pc' : Nat} (hq : px_jq i pc = true) (h : px_jp i pc len st = some (pc', st'))
    (k : W p l e R s m args below meth c H locs cells slots Q (F0 m pc' ls (st'.map (px_v B b)))) : W p l e R s m args below meth c H locs cells slots Q (F0 m pc ls (st.map (px_v B b))) := by
  unfold px_jp at h
  split at h
  · rename_i st0 o
    have hl : len = 3 := hl.elim id (fun ⟨_, _, _, _, z⟩ => by cases z)
    subst hl
    cases h
    simp only [px_jq, decide_eq_true_eq] at hq
    exact lv_goto hx hb hd (by omega) k
  · rename_i cd o x st0
    have hl : len = 3 := hl.elim id (fun ⟨_, _, _, _, z⟩ => by cases z)
    subst hl
    simp only [px_jq, decide_eq_true_eq] at hq
    have ht : (pc : Int) + o = ((((pc : Int) + o).toNat : Nat) : Int) := by omega
    cases h
    have kt : px_cond cd x 0 = true → W p l e R s m args below meth c H locs cells slots Q (F0 m ((pc : Int) + o).toNat ls (st'.map (px_v B b))) := fun hc => by rw [if_pos hc] at k; exact k
    have kf : px_cond cd x 0 = false → W p l e R s m args below meth c H locs cells slots Q (F0 m (pc + 3) ls (st'.map (px_v B b))) := fun hc => by rw [if_neg (by rw [hc]; decide)] at k; exact k
    cases cd with
    | eq => exact lv_if_eq hx hb hd ht (fun hc => kt (decide_eq_true hc)) (fun hc => kf (decide_eq_false hc))
    | ne => exact lv_if_ne hx hb hd ht (fun hc => kt (decide_eq_true hc)) (fun hc => kf (decide_eq_false (fun z => z hc)))
    | lt => exact lv_if_lt hx hb hd ht (fun hc => kt (decide_eq_true hc)) (fun hc => kf (decide_eq_false hc))
    | ge => exact lv_if_ge hx hb hd ht (fun hc => kt (decide_eq_true hc)) (fun hc => kf (decide_eq_false hc))
    | gt => exact lv_if_gt hx hb hd ht (fun hc => kt (decide_eq_true hc)) (fun hc => kf (decide_eq_false hc))
    | le => exact lv_if_le hx hb hd ht (fun hc => kt (decide_eq_true hc)) (fun hc => kf (decide_eq_false hc))
  · rename_i cd o y x st0
    have hl : len = 3 := hl.elim id (fun ⟨_, _, _, _, z⟩ => by cases z)
    subst hl
    simp only [px_jq, decide_eq_true_eq] at hq
    have ht : (pc : Int) + o = ((((pc : Int) + o).toNat : Nat) : Int) := by omega
    cases h
    have kt : px_cond cd x y = true → W p l e R s m args below meth c H locs cells slots Q (F0 m ((pc : Int) + o).toNat ls (st'.map (px_v B b))) := fun hc => by rw [if_pos hc] at k; exact k
    have kf : px_cond cd x y = false → W p l e R s m args below meth c H locs cells slots Q (F0 m (pc + 3) ls (st'.map (px_v B b))) := fun hc => by rw [if_neg (by rw [hc]; decide)] at k; exact k
    cases cd with
    | eq => exact lv_icmp_eq hx hb hd ht (fun hc => kt (decide_eq_true hc)) (fun hc => kf (decide_eq_false hc))
    | ne => exact lv_icmp_ne hx hb hd ht (fun hc => kt (decide_eq_true hc)) (fun hc => kf (decide_eq_false (fun z => z hc)))
    | lt => exact lv_icmp_lt hx hb hd ht (fun hc => kt (decide_eq_true hc)) (fun hc => kf (decide_eq_false hc))
    | ge => exact lv_icmp_ge hx hb hd ht (fun hc => kt (decide_eq_true hc)) (fun hc => kf (decide_eq_false hc))
    | gt => exact lv_icmp_gt hx hb hd ht (fun hc => kt (decide_eq_true hc)) (fun hc => kf (decide_eq_false hc))
    | le => exact lv_icmp_le hx hb hd ht (fun hc => kt (decide_eq_true hc)) (fun hc => kf (decide_eq_false hc))
  · rename_i d lo hi offs x st0
    simp only [px_jq, Bool.and_eq_true, decide_eq_true_eq, Array.all_eq_true] at hq
    split at h
    · rename_i hc
      cases h
      exact lv_tableOut hx hb hd hc (by omega) k
    · rename_i hc
      cases ho : offs[(x.toInt - lo).toNat]? with
      | none => rw [ho] at h; cases h
      | some o =>
        rw [ho] at h
        cases h
        obtain ⟨hi9, he9⟩ := Array.getElem?_eq_some_iff.mp ho
        have h9 := hq.2 _ hi9
        rw [he9] at h9
        exact lv_tableIn hx hb hd (fun z => hc (Or.inl z)) (fun z => hc (Or.inr z)) ho (by omega) k
  · cases h
end PXA

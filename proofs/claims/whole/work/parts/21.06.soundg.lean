/-! the whole run *-/
section PXG
variable {p : Program} {l : Launch} {e : Env} {R : Room} {s : State} {m : MethodId} {args : Array Value} {below : List Frame} {meth : Method} {c : Code} {H : Heap} {locs : List Loc} {cells slots : Nat} {Q : State → Prop}
variable {B b S : Nat} {xs : Nat → Int32} {cy : Nat → ClassId} {D : va_G}
theorem px_wret {r : px_R} {pc mc ms : Nat} {ls : Array Slot} {st : List Value} {v : Option Value} {i : ClassFile.Instr} {h' : px_H} {XC : String → State → State → Prop} (hin : px_In B b S xs cy D p l s m args meth c r) (hd : decode (px_b r) pc = .ok (i, 1)) (hr : px_ret (px_rt r) i st = some v)
    (hHR : px_HR B b cy D h' H) (hS : va_S (fun q : Nat => B ≤ q) s.heap H locs) (hc : cells ≤ mc) (hs : slots ≤ ms) : W p l e R s m args below meth c H locs cells slots (vx_MQ below (px_Qc B b cy D (.inl v) h') XC args s mc ms (fun q : Nat => B ≤ q)) (F0 m pc ls (st.map (px_v B b))) := by
  obtain ⟨hx, hb, hml, hrt, hlocks, hown, hts, hK, htab, hini, hst⟩ := hin
  refine vx_ret (W.widen hc hs ?_)
  generalize px_rt r = rt at hr hrt
  unfold px_ret at hr
  split at hr
  · cases hr
    exact W.vret hx hb hrt (fun t ht hW => ⟨none, rfl, rfl, by rw [ht]; exact hHR, hS.F ht⟩) hS.2.2 hd
  · cases hr
    exact W.iret hx hb hrt (fun t ht hW => ⟨_, rfl, rfl, by rw [ht]; exact hHR, hS.F ht⟩) hS.2.2 hd
  · split at hr
    · rename_i hv
      cases hr
      refine W.zret hx hb hrt ?_ (fun t ht hW => ⟨_, rfl, rfl, by rw [ht]; exact hHR, hS.F ht⟩) hS.2.2 hd
      rcases hv with rfl | rfl <;> rfl
    · cases hr
  · split at hr
    · rename_i hv
      cases hr
      refine W.zret hx hb hrt ?_ (fun t ht hW => ⟨_, rfl, rfl, by rw [ht]; exact hHR, hS.F ht⟩) hS.2.2 hd
      show Value.int _ = Value.int _
      rw [hv]
    · cases hr
  · cases hr
    exact W.lret hx hb hrt (fun t ht hW => ⟨_, rfl, rfl, by rw [ht]; exact hHR, hS.F ht⟩) hS.2.2 hd
  · cases hr
    exact W.fret hx hb hrt (fun t ht hW => ⟨_, rfl, rfl, by rw [ht]; exact hHR, hS.F ht⟩) hS.2.2 hd
  · cases hr
    exact W.dret hx hb hrt (fun t ht hW => ⟨_, rfl, rfl, by rw [ht]; exact hHR, hS.F ht⟩) hS.2.2 hd
  · cases hr
/-- every run of n steps of the pure machine is the machine's -/
def px_Runs (l : Launch) (B b S : Nat) (xs : Nat → Int32) (cy : Nat → ClassId) (D : va_G) (n : Nat) : Prop :=
  ∀ (k : Nat) (r : px_R) (pc : Nat) (L : px_L) (st : List Value) (h : px_H) (res : Option Value ⊕ String) (h' : px_H), pt_mt[k]? = some r → px_ex S xs n k pc L st h = some (res, h') →
    ∀ (p : Program) (e : Env) (R : Room) (s : State) (m : MethodId) (args : Array Value) (below : List Frame) (meth : Method) (c : Code) (Q : State → Prop), px_In B b S xs cy D p l s m args meth c r → px_fr r ≤ R.frames → px_lo r ≤ R.locals →
    (∀ v, res = .inl v → ∀ (pc' : Nat) (ls' : Array Slot) (st' : List Value) (H' : Heap) (locs' : List Loc) (cells' slots' : Nat) (i : ClassFile.Instr), decode (px_b r) pc' = .ok (i, 1) → px_ret (px_rt r) i st' = some v → px_HR B b cy D h' H' → va_S (fun q : Nat => B ≤ q) s.heap H' locs' → cells' ≤ R.cells → slots' ≤ R.slots →
      W p l e R s m args below meth c H' locs' cells' slots' Q (F0 m pc' ls' (st'.map (px_v B b)))) →
    (∀ E, res = .inr E → ∃ (Qc : Array Value → State → Outcome → State → Prop) (XC : String → State → State → Prop), Q = vx_MQ below Qc XC args s R.cells R.slots (fun q : Nat => B ≤ q) ∧ ∀ t : State, s.vm.Alike t.vm → px_HR B b cy D h' t.heap → va_F (fun q : Nat => B ≤ q) s t → XC E s t) →
    ∀ (H : Heap) (locs : List Loc) (cells slots : Nat) (ls : Array Slot), px_HR B b cy D h H → va_S (fun q : Nat => B ≤ q) s.heap H locs → px_LR B b ls L → L.length = px_mx r → (h.2.2.2 = true → s.heap.size + cells ≤ B + h.1.length) → cells + px_cnt h' ≤ R.cells + px_cnt h → slots + h'.2.2.1 ≤ R.slots + h.2.2.1 →
      W p l e R s m args below meth c H locs cells slots Q (F0 m pc ls (st.map (px_v B b)))
theorem px_entry_in (B b : Nat) : ∀ (As : List Value) (i : Nat) (v : Value), (As.flatMap (fun v => if v.category = 2 then [some v, none] else [some v]))[i]? = some (some v) → (lg_sl (As.map (px_v B b)))[i]? = some (.val (px_v B b v)) := by
  intro As
  induction As with
  | nil => intro i v h; simp at h
  | cons a As ih =>
    intro i v h
    rw [List.flatMap_cons] at h
    unfold lg_sl
    rw [List.map_cons, List.flatMap_cons, px_cat]
    by_cases hc : a.category = 2
    · rw [if_pos hc] at h ⊢
      match i, h with
      | 0, h => cases h; rfl
      | 1, h => cases h
      | i + 2, h => exact ih i v h
    · rw [if_neg hc] at h ⊢
      match i, h with
      | 0, h => cases h; rfl
      | i + 1, h => exact ih i v h
theorem px_entry_len (B b : Nat) (As : List Value) : (lg_sl (As.map (px_v B b))).length = (As.flatMap (fun v => if v.category = 2 then [some v, none] else [some v])).length := by
  induction As with
  | nil => rfl
  | cons a As ih =>
    unfold lg_sl at ih ⊢
    rw [List.map_cons, List.flatMap_cons, List.flatMap_cons, px_cat, List.length_append, List.length_append, ih]
    by_cases hc : a.category = 2
    · rw [if_pos hc, if_pos hc]; rfl
    · rw [if_neg hc, if_neg hc]; rfl
theorem px_entry {n : Nat} {As : List Value} (h : (px_in0 n As).length = n) : px_LR B b ((lg_sl (As.map (px_v B b)) ++ List.replicate (n - (lg_sl (As.map (px_v B b))).length) Slot.unset).toArray) (px_in0 n As) := by
  have hl : (lg_sl (As.map (px_v B b))).length ≤ n := by
    rw [px_entry_len]
    simp only [px_in0, List.length_append, List.length_replicate] at h
    omega
  have h1 := lv_entry (As.map (px_v B b)) (n := n) hl
  refine ⟨h1.1.trans h.symm, h1.2.1, fun i v hv => ?_⟩
  simp only [px_in0] at hv
  rw [List.getElem?_toArray]
  by_cases hi : i < (As.flatMap (fun v => if v.category = 2 then [some v, none] else [some v])).length
  · rw [List.getElem?_append_left hi] at hv
    rw [List.getElem?_append_left (by rw [px_entry_len]; exact hi)]
    exact px_entry_in B b As i v hv
  · rw [List.getElem?_append_right (by omega)] at hv
    rw [List.getElem?_replicate] at hv
    split at hv <;> cases hv
theorem px_LR.drop {ls ls' : Array Slot} {L : px_L} {k : Nat} {x : Value} (hc : px_c2 L k = true) (h : lv_has ls' L.length ((k, x) :: (px_as B b L).filter (fun q => !(q.1 == k) && !(q.1 + 1 == k && q.2.category == 2)))) : px_LR B b ls' (L.set k none) := by
  refine ⟨by rw [List.length_set]; exact h.1, h.2.1, fun j w hw => ?_⟩
  by_cases hj : j = k
  · subst hj
    rw [List.getElem?_set] at hw
    split at hw
    · split at hw <;> cases hw
    · exact absurd rfl ‹_›
  · rw [List.getElem?_set_ne (fun e => hj e.symm)] at hw
    refine h.2.2 (j, px_v B b w) (List.mem_cons_of_mem _ (List.mem_filter.mpr ⟨px_as_mem hw, ?_⟩))
    have h1 : (j == k) = false := by simpa using hj
    simp only [h1, Bool.not_false, Bool.true_and, Bool.not_eq_true', Bool.and_eq_false_iff, beq_eq_false_iff_ne, ne_eq]
    by_cases h2 : j + 1 = k
    · right
      subst h2
      simp only [px_c2, hw, Option.getD_some, decide_eq_true_eq] at hc
      rw [px_cat]
      omega
    · exact Or.inl h2
/-- a method's contract, out of a run -/
theorem px_met (hst : l.stackTraces = false) {n j : Nat} (ih : px_Runs l B b S xs cy D n) {rj : px_R} {As : List Value} {h h1 : px_H} {res : Option Value ⊕ String} (hj : pt_mt[j]? = some rj) (hex : px_ex S xs n j 0 (px_in0 (px_mx rj) As) [] h = some (res, h1)) (hlen : (px_in0 (px_mx rj) As).length = px_mx rj) :
    vx_Met l (px_y rj) (px_ws rj) (px_rm rj (px_cnt h1 - px_cnt h) (h1.2.2.1 - h.2.2.1)) (px_Pc B b S xs cy D As h) (px_Qc B b cy D res h1) (px_XC B b cy D res h1) (px_cnt h1 - px_cnt h) (h1.2.2.1 - h.2.2.1) (fun q : Nat => B ≤ q) := by
  have hsure := pt_all rj (List.mem_of_getElem? hj)
  have hokR := hsure.2
  simp only [px_okR, Bool.and_eq_true, decide_eq_true_eq] at hokR
  obtain ⟨⟨⟨-, hpl⟩, -⟩, hycl⟩ := hokR
  have hmono := px_mono _ _ _ _ _ _ _ _ hex
  have main : ∀ (p : Program) (e : Env) (s : State) (m : MethodId) (args : Array Value) (below : List Frame) (meth : Method) (c : Code), px_In B b S xs cy D p l s m args meth c rj → px_Pc B b S xs cy D As h args s →
      W p l e (px_rm rj (px_cnt h1 - px_cnt h) (h1.2.2.1 - h.2.2.1)) s m args below meth c s.heap [] 0 0 (vx_MQ below (px_Qc B b cy D res h1) (px_XC B b cy D res h1) args s (px_cnt h1 - px_cnt h) (h1.2.2.1 - h.2.2.1) (fun q : Nat => B ≤ q)) (entryFrame m args (px_mx rj)) := by
    intro p e s m args below meth c hin hpc
    obtain ⟨rfl, hHR, hK, hsz⟩ := hpc
    rw [lg_entry_eq]
    refine ih j rj 0 _ [] h res h1 hj hex p e (px_rm rj (px_cnt h1 - px_cnt h) (h1.2.2.1 - h.2.2.1)) s m _ below meth c _ hin (Nat.le_refl _) (Nat.le_refl _) ?_ ?_ s.heap [] 0 0 _ hHR va_S.rf (px_entry hlen) hlen (fun hf => by rw [Nat.add_zero]; exact hsz hf) ?_ ?_
    · intro v hv pc' ls' st' H' locs' cells' slots' i hd hr hHR' hS' hc hs
      subst hv
      exact px_wret hin hd hr hHR' hS' hc hs
    · intro E hE
      exact ⟨_, _, rfl, fun t _ h1 h2 => ⟨hE, h1, h2⟩⟩
    · have := hmono.1
      show 0 + px_cnt h1 ≤ (px_cnt h1 - px_cnt h) + px_cnt h
      omega
    · have := hmono.2.1
      show 0 + h1.2.2.1 ≤ (h1.2.2.1 - h.2.2.1) + h.2.2.1
      omega
  have hdd : ∀ (args : Array Value) (s : State), (headSpec (px_ws rj) (px_rm rj (px_cnt h1 - px_cnt h) (h1.2.2.1 - h.2.2.1))).pre.before args s = true → ∀ w ∈ px_ws rj, w.before args s = true := fun args s hp => atoms_spec (ws := px_ws rj) hp
  have hW : ∀ (p : Program) (e : Env) (s : State) (m : MethodId) (args : Array Value) (below : List Frame) (meth : Method) (c : Code) (s₁ : State), BodyLoose p l (px_y rj) (headSpec (px_ws rj) (px_rm rj (px_cnt h1 - px_cnt h) (h1.2.2.1 - h.2.2.1))) (px_b rj) (px_mx rj) (px_rt rj) e s m args below meth c s₁ → c.maxLocals = px_mx rj → c.exceptionTable.toList = tableOf (px_hh rj) → px_Pc B b S xs cy D As h args s →
      ∃ s₂ o, Steps p.tables e below (s₁.setTop (entryFrame m args (px_mx rj))) s₂ ∧ s₂.status = .running ∧ Ended s₂ below o ∧ vx_Q (px_Qc B b cy D res h1) (px_XC B b cy D res h1) (px_cnt h1 - px_cnt h) (h1.2.2.1 - h.2.2.1) (fun q : Nat => B ≤ q) args s o s₂ := by
    intro p e s m args below meth c s₁ Bd hml htab hpc
    have hh0 : s₁.heap = s.heap := by rw [Bd.state]; rfl
    have hin : px_In B b S xs cy D p l s m args meth c rj := ⟨Bd.exec, Bd.bytes, hml, Bd.returns, Bd.notSynchronized, by rw [← hycl]; exact findClass_of_methodNamed Bd.named, fun w hw => hdd _ _ Bd.pre w (List.mem_cons_of_mem _ hw), hpc.2.2.1, htab, fun hn => by rw [(name_of_methodNamed Bd.named Bd.method).1]; exact hn, hst⟩
    obtain ⟨t, a1, o, b1, b2, b3⟩ := main p e s m args below meth c hin hpc s₁ hh0 (Stand.of_body Bd)
    exact ⟨t, o, a1, b1, b2, b3⟩
  by_cases hhe : (px_hh rj).isEmpty = true
  · have hws : px_head rj = Cond.code (px_y rj) (px_b rj) (px_mx rj) (px_rt rj) := by unfold px_head; rw [if_pos hhe]
    refine MetFree.of_bodySF (code := px_b rj) (maxLocals := px_mx rj) (ret := px_rt rj) hpl ?_ ?_
    · intro args s m hp hn
      have hw := hdd args s hp (px_head rj) List.mem_cons_self
      rw [hws] at hw
      obtain ⟨meth, c, h1, h2, h3, h4, h5, h6, -, -⟩ := Cond.code_spec hn hw
      exact ⟨meth, c, h1, h2, h3, h4, h5, h6⟩
    · intro p e s m args below meth c s₁ Bd hml hpc _
      have hw := hdd args s Bd.pre (px_head rj) List.mem_cons_self
      rw [hws] at hw
      obtain ⟨meth9, c9, h1, h2, -, -, -, -, h7, -⟩ := Cond.code_spec Bd.named hw
      cases Option.some.inj (h1.symm.trans Bd.method)
      cases Option.some.inj (h2.symm.trans (Stand.of_body Bd).code)
      exact hW p e s m args below meth c s₁ Bd hml (by rw [List.isEmpty_iff.mp hhe, Array.isEmpty_iff.mp h7]; rfl) hpc
  · have hws : px_head rj = Cond.codeWith (px_y rj) (px_b rj) (px_mx rj) (px_rt rj) (px_hh rj) := by unfold px_head; rw [if_neg hhe]
    refine MetFree.of_bodySF (code := px_b rj) (maxLocals := px_mx rj) (ret := px_rt rj) hpl ?_ ?_
    · intro args s m hp hn
      have hw := hdd args s hp (px_head rj) List.mem_cons_self
      rw [hws] at hw
      obtain ⟨m9, meth, c, hn9, h1, h2, h3, h4, h7, h5, h6, -⟩ := Cond.codeWith_spec hw
      cases hn.symm.trans hn9
      exact ⟨meth, c, h1, h2, h3, h4, h5, h6⟩
    · intro p e s m args below meth c s₁ Bd hml hpc _
      have hw := hdd args s Bd.pre (px_head rj) List.mem_cons_self
      rw [hws] at hw
      exact hW p e s m args below meth c s₁ Bd hml (vx_table (x := px_y rj) Bd hw) hpc
theorem px_len_of {i : ClassFile.Instr} {len : Nat} (h : px_lenOk i len = true) : len = px_len i ∨ ∃ d lo hi offs, i = .tableswitch d lo hi offs := by
  unfold px_lenOk at h
  split at h
  · exact Or.inr ⟨_, _, _, _, rfl⟩
  · exact Or.inl (of_decide_eq_true h)
set_option maxHeartbeats 8000000 in
theorem px_run (hst : l.stackTraces = false) : ∀ n, px_Runs l B b S xs cy D n := by
  intro n
  induction n with
  | zero => intro k r pc L st h res h' hk he; cases he
  | succ n ih =>
    intro k r pc L st h res h' hk he p e R s m args below meth c Q hin hfr hlo cret cthr H locs cells slots ls hHR hS hL hLl hfresh hcl hsl
    have hsure := pt_all r (List.mem_of_getElem? hk)
    have hin0 := hin
    obtain ⟨hx, hb, hml, hrt, hlocks, hown, hts, hK, htab, hini, hst9⟩ := hin
    have hsize : ls.size = c.maxLocals := by rw [hL.1, hLl, hml]
    unfold px_ex at he
    rw [hk] at he
    dsimp only at he
    cases hat : px_at (px_co r) pc with
    | none => rw [hat] at he; cases he
    | some q =>
    obtain ⟨i, len⟩ := q
    rw [hat] at he
    dsimp only at he
    have hd := px_dec hsure hat
    obtain ⟨hlen, hrk⟩ := px_row hsure hat
    cases hop : px_op i st with
    | some st' =>
      rw [hop] at he
      have hl : len = px_len i := (px_len_of hlen).elim id (fun ⟨_, _, _, _, z⟩ => by subst z; simp [px_op] at hop)
      exact px_wop hx hb hd hl hop (ih k r _ L st' h res h' hk he p e R s m args below meth c Q hin0 hfr hlo cret cthr H locs cells slots ls hHR hS hL hLl hfresh hcl hsl)
    | none =>
    rw [hop] at he
    dsimp only at he
    cases hls : px_ls i L st with
    | some q =>
      obtain ⟨L', st'⟩ := q
      rw [hls] at he
      have hl : len = px_len i := (px_len_of hlen).elim id (fun ⟨_, _, _, _, z⟩ => by subst z; simp [px_ls] at hls)
      exact px_wls hx hb hd hl hL hls (fun ls' h1 h2 => ih k r _ L' st' h res h' hk he p e R s m args below meth c Q hin0 hfr hlo cret cthr H locs cells slots ls' hHR hS h1 (h2.trans hLl) hfresh hcl hsl)
    | none =>
    rw [hls] at he
    dsimp only at he
    cases hjp : px_jp i pc len st with
    | some q =>
      obtain ⟨pc', st'⟩ := q
      rw [hjp] at he
      dsimp only at he
      split at he
      · rename_i hjq
        exact px_wjp hx hb hd (px_len_of hlen) hjq hjp (ih k r _ L st' h res h' hk he p e R s m args below meth c Q hin0 hfr hlo cret cthr H locs cells slots ls hHR hS hL hLl hfresh hcl hsl)
      · cases he
    | none =>
    rw [hjp] at he
    dsimp only at he
    cases hre : px_ret (px_rt r) i st with
    | some v =>
      rw [hre] at he
      cases he
      have hl : len = 1 := by
        have hl9 : len = px_len i := (px_len_of hlen).elim id (fun ⟨_, _, _, _, z⟩ => by subst z; simp [px_ret] at hre)
        rw [hl9]
        unfold px_ret at hre
        split at hre <;> first | rfl | cases hre
      subst hl
      exact cret v rfl pc ls st H locs cells slots i hd hre hHR hS (by omega) (by omega)
    | none =>
    rw [hre] at he
    dsimp only at he
    cases hca : px_ca (px_cl r) i st h with
    | some q =>
      obtain ⟨kd, j, As, rest⟩ := q
      rw [hca] at he
      dsimp only at he
      have hl : len = 3 := by
        have hl9 : len = px_len i := (px_len_of hlen).elim id (fun ⟨_, _, _, _, z⟩ => by subst z; simp [px_ca] at hca)
        rw [hl9]
        unfold px_ca at hca
        split at hca <;> first | rfl | cases hca
      subst hl
      cases hj : pt_mt[j]? with
      | none => rw [hj] at he; cases he
      | some rj =>
      rw [hj] at he
      dsimp only at he
      split at he
      · cases he
      rename_i hlen0
      have hlen0 : (px_in0 (px_mx rj) As).length = px_mx rj := Decidable.not_not.mp hlen0
      cases hex : px_ex S xs n j 0 (px_in0 (px_mx rj) As) [] h with
      | none => rw [hex] at he; cases he
      | some q =>
      obtain ⟨res1, h1⟩ := q
      rw [hex] at he
      have hM := px_met hst ih hj hex hlen0
      have hm1 := px_mono _ _ _ _ _ _ _ _ hex
      cases res1 with
      | inl v1 =>
        dsimp only at he
        have hm2 := px_mono _ _ _ _ _ _ _ _ he
        have c1 := hm1.1
        have c2 := hm2.1
        have d1 := hm1.2.1
        have d2 := hm2.2.1
        refine px_wcall hin0 hd hca hj hM hrk hfr hlo (Or.inr (Or.inr (Or.inr ⟨v1, rfl⟩))) hHR hS hsize hfresh (by omega) (by omega) (fun v hv H1 locs1 hHR1 hS1 => ?_) (fun E hE => by cases hE)
        cases hv
        have hst1 : (v1.map (px_v B b)).toList ++ rest.map (px_v B b) = (v1.toList ++ rest).map (px_v B b) := by cases v1 <;> rfl
        rw [hst1]
        refine ih k r _ L _ h1 res h' hk he p e R s m args below meth c Q hin0 hfr hlo cret cthr H1 locs1 _ _ ls hHR1 hS1 hL hLl (fun hf => ?_) (by omega) (by omega)
        have h3 := hm1.2.2 hf
        have h4 := hfresh h3.1
        simp only [px_cnt] at c1 ⊢
        omega
      | inr E1 =>
        dsimp only at he
        split at he
        · cases he
        rename_i hkd
        have hkd : kd = 0 ∨ kd = 1 ∨ kd = 7 := Decidable.not_not.mp hkd
        have hEx := px_exE _ _ _ _ _ _ _ _ hex
        have c1 := hm1.1
        have d1 := hm1.2.1
        have hz : ∀ q ∈ pt_E (px_cl r), q.1 ≠ 0 ∧ q.2.1 ∈ px_exs := fun q hq => by
          have := List.all_eq_true.mp (pt_okE2 (px_cl r)) _ hq
          simpa only [px_okE2, Bool.and_eq_true, decide_eq_true_eq] using this
        have hkd4 : kd = 0 ∨ kd = 1 ∨ kd = 7 ∨ ∃ v, (Sum.inr E1 : Option Value ⊕ String) = .inl v := by
          rcases hkd with z | z | z
          · exact Or.inl z
          · exact Or.inr (Or.inl z)
          · exact Or.inr (Or.inr (Or.inl z))
        obtain ⟨hKk, hAO, hX, hbB, hBs, hU, hN, hNe, hCa, hNc, hStr, hDe⟩ := hK
        cases hha : px_ha (px_cl r) (px_hh r) pc E1 with
        | none =>
          rw [hha] at he
          cases he
          obtain ⟨Qc, XC, rfl, hXC⟩ := cthr E1 rfl
          refine px_wcall hin0 hd hca hj hM hrk hfr hlo hkd4 hHR hS hsize hfresh (by omega) (by omega) (fun v hv => by cases hv) (fun E hE H1 locs1 ce q hHR1 hS1 hcell hv hcl9 => ?_)
          cases hE
          have hokR := hsure.2
          simp only [px_okR, Bool.and_eq_true, decide_eq_true_eq] at hokR
          have hlk : ∀ w ∈ px_hh r, ∃ v, (pt_E (px_cl r)).lookup w.2.2.2 = some v := fun w hw => Option.isSome_iff_exists.mp (List.all_eq_true.mp hokR.1.1.1.1 _ hw)
          exact vx_outP hown hlocks (by rw [htab]; exact px_uncaught hts (pt_okE _) hz hNc hEx _ hlk hha) hcell hv hcl9 (fun t ht hal => hXC t hal (by rw [ht]; exact hHR1) (hS1.F ht)) hS1.2.2 (by omega) (by omega)
        | some t =>
          rw [hha] at he
          dsimp only at he
          cases hhs : px_hs (px_co r) t L with
          | none => rw [hhs] at he; cases he
          | some q =>
          obtain ⟨pc', L'⟩ := q
          rw [hhs] at he
          dsimp only at he
          have hm2 := px_mono _ _ _ _ _ _ _ _ he
          have c2 := hm2.1
          have d2 := hm2.2.1
          refine px_wcall hin0 hd hca hj hM hrk hfr hlo hkd4 hHR hS hsize hfresh (by omega) (by omega) (fun v hv => by cases hv) (fun E hE H1 locs1 ce q hHR1 hS1 hcell hv hcl9 => ?_)
          cases hE
          refine px_caught hown hts (pt_okE _) hz hCa hNc hEx hcell hv hcl9 (px_hh r) [] (by rw [htab]; rfl) (fun z hz1 => by cases hz1) t hha ?_
          have kont : ∀ ls' : Array Slot, px_LR B b ls' L' → L'.length = L.length → W p l e R s m args below meth c H1 locs1 (cells + (px_cnt h1 - px_cnt h)) (slots + (h1.2.2.1 - h.2.2.1)) Q (F0 m pc' ls' []) := by
            intro ls' h2 h3
            refine ih k r pc' L' [] h1 res h' hk he p e R s m args below meth c Q hin0 hfr hlo cret cthr H1 locs1 _ _ ls' hHR1 hS1 h2 (h3.trans hLl) (fun hf => ?_) (by omega) (by omega)
            have h3 := hm1.2.2 hf
            have h4 := hfresh h3.1
            simp only [px_cnt] at c1 ⊢
            omega
          unfold px_hs at hhs
          split at hhs
          · rename_i k9 len9 hat9
            split at hhs
            · rename_i hc9
              cases hhs
              have hl9 : len9 = 2 := (px_len_of (px_row hsure hat9).1).elim id (fun ⟨_, _, _, _, z⟩ => by cases z)
              subst hl9
              exact lv_astore hx hb (px_dec hsure hat9) hL.has hc9.1 rfl (fun ls' h' => kont ls' (px_LR.drop (ls := ls) hc9.2 h') (List.length_set ..))
            · cases hhs
          · rename_i k9 len9 hat9
            split at hhs
            · rename_i hc9
              cases hhs
              have hl9 : len9 = 1 := (px_len_of (px_row hsure hat9).1).elim id (fun ⟨_, _, _, _, z⟩ => by cases z)
              subst hl9
              exact lv_astore_n hx hb (px_dec hsure hat9) rfl hL.has hc9.1 rfl (fun ls' h' => kont ls' (px_LR.drop (ls := ls) hc9.2 h') (List.length_set ..))
            · cases hhs
          · cases hhs
    | none =>
    rw [hca] at he
    dsimp only at he
    cases hth : px_th (px_cl r) (px_co r) pc st with
    | some E =>
      rw [hth] at he
      dsimp only at he
      split at he
      · rename_i hhe
        cases he
        obtain ⟨Qc, XC, rfl, hXC⟩ := cthr E rfl
        simp only [px_cnt] at hcl
        dsimp only at hsl
        exact px_wthrow hin0 hsure hfr hlo hhe hth hsize hHR hS (by omega) (by omega) hXC
      · cases he
    | none =>
    rw [hth] at he
    dsimp only at he
    cases hhp : px_hp (px_cl r) (decide ((px_y r).name = "<init>")) S xs i st h with
    | none => rw [hhp] at he; cases he
    | some q =>
    obtain ⟨st', h2⟩ := q
    rw [hhp] at he
    dsimp only at he
    have hm1 := px_hp_le hhp
    have hm2 := px_mono _ _ _ _ _ _ _ _ he
    have c1 := hm1.1
    have c2 := hm2.1
    have d1 := hm1.2.1
    have d2 := hm2.2.1
    obtain ⟨hKk, hAO, hX, hbB, hBs, hU, hN, hNe, hCa, hNc, hStr, hDe⟩ := hK
    have hAr : ∀ ty ∈ ([.int, .byte, .long, .double] : List FieldType), Cond.arrayClass ty ∈ wsL_law := by
      intro ty hty
      simp only [List.mem_cons, List.not_mem_nil, or_false] at hty
      rcases hty with rfl | rfl | rfl | rfl
      · exact px_wd_mem pt_arr_int
      · exact px_wd_mem pt_arr_byte
      · exact px_wd_mem pt_arr_long
      · exact px_wd_mem pt_arr_double
    refine px_whp hx hb hd hlen hown hts hKk hAO hAr hX hbB hBs hS (fun hz => hini (of_decide_eq_true hz)) hsize hHR hfresh (pt_okF _) (pt_okN _) (pt_okK _) (pt_okM _) (fun x => ⟨fun hi v hlk => ?_, fun hi v hlk => ?_⟩) hhp (by omega) (by omega) (fun H1 locs1 cells1 slots1 hHR1 hS1 e1 e2 hf1 => ?_)
    · subst hi
      obtain ⟨a1, a2⟩ := v
      simp only [px_rk, hlk, if_pos, Bool.and_eq_true, decide_eq_true_eq] at hrk
      omega
    · subst hi
      obtain ⟨a1, a2⟩ := v
      simp only [px_rk, hlk, if_pos, if_neg (show ¬ (6 : Nat) = 5 by decide), Bool.and_eq_true, decide_eq_true_eq] at hrk
      omega
    · exact ih k r _ L st' h2 res h' hk he p e R s m args below meth c Q hin0 hfr hlo cret cthr H1 locs1 cells1 slots1 ls hHR1 hS1 hL hLl hf1 (by omega) (by omega)
end PXG

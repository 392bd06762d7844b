/-! WHAT HOLDS AT THE LAW'S ENTRY -/
section PXZ
variable {s : State} {b L : Nat} {xs : Nat → Int32}
theorem px_K0a (hts : ∀ w ∈ lw_tbl, w.before #[Value.ref b] s = true) : ∃ (cy : Nat → ClassId) (D : va_G), va_K D vwCl (px_tys cy) s := by
  have hw : ∀ w ∈ wsL_law, w.before #[Value.ref b] s = true := fun w h => hts w (wsL_law_in w h)
  obtain ⟨c0, i0, k0⟩ := u_known (C := RX0) (T := TX0) (N := 4) (n := 4) hw inlX0 (hts (.instantiable RX0 4) (by decide +kernel))
  obtain ⟨c1, i1, k1⟩ := u_known (C := RX2) (T := TX2) (N := 8) (n := 8) hw inlX2 (hts (.instantiable RX2 8) (by decide +kernel))
  obtain ⟨c2, i2, k2⟩ := u_known (C := RX3) (T := TX3) (N := 3) (n := 3) hw inlX3 (hts (.instantiable RX3 3) (by decide +kernel))
  obtain ⟨c3, i3, k3⟩ := u_known (C := RX4) (T := TX4) (N := 10) (n := 10) hw inlX4 (hts (.instantiable RX4 10) (by decide +kernel))
  obtain ⟨c4, i4, k4⟩ := u_known (C := RX5) (T := TX5) (N := 4) (n := 4) hw inlX5 (hts (.instantiable RX5 4) (by decide +kernel))
  obtain ⟨c5, i5, k5⟩ := u_known (C := RX6) (T := TX6) (N := 9) (n := 9) hw inlX6 (hts (.instantiable RX6 9) (by decide +kernel))
  obtain ⟨c6, i6, k6⟩ := u_known (C := RX7) (T := TX7) (N := 8) (n := 8) hw inlX7 (hts (.instantiable RX7 8) (by decide +kernel))
  obtain ⟨c7, i7, k7⟩ := u_known (C := RX9) (T := TX9) (N := 9) (n := 9) hw inlX9 (hts (.instantiable RX9 9) (by decide +kernel))
  obtain ⟨c8, i8, k8⟩ := u_known (C := RX10) (T := TX10) (N := 32) (n := 32) hw inlX10 (hts (.instantiable RX10 32) (by decide +kernel))
  obtain ⟨a0, g0, m0, p0, q0, r0⟩ := Cond.arrayClass_spec (hts (.arrayClass .int) (by decide +kernel))
  obtain ⟨a1, g1, m1, p1, q1, r1⟩ := Cond.arrayClass_spec (hts (.arrayClass .byte) (by decide +kernel))
  obtain ⟨m2, a2, g2, p2, -, q2, r2, f2⟩ := Cond.arrayOver_spec (hts (.arrayOver (.object RX2)) (by decide +kernel))
  obtain ⟨m3, a3, g3, p3, -, q3, r3, f3⟩ := Cond.arrayOver_spec (hts (.arrayOver (.object RX7)) (by decide +kernel))
  obtain ⟨m4, a4, g4, p4, -, q4, r4, f4⟩ := Cond.arrayOver_spec (hts (.arrayOver (.object RX5)) (by decide +kernel))
  obtain ⟨a5, g5, m5, p5, q5, r5⟩ := Cond.arrayClass_spec (hts (.arrayClass .long) (by decide +kernel))
  obtain ⟨a6, g6, m6, p6, q6, r6⟩ := Cond.arrayClass_spec (hts (.arrayClass .double) (by decide +kernel))
  refine ⟨fun k => if k = 0 then a0 else if k = 1 then a1 else if k = 2 then a2 else if k = 3 then a3 else if k = 4 then a4 else if k = 5 then a5 else a6, (fun k => if k = 0 then c0 else if k = 1 then c1 else if k = 2 then c2 else if k = 3 then c3 else if k = 4 then c4 else if k = 5 then c5 else if k = 6 then c6 else if k = 7 then c7 else c8, fun k => if k = 0 then i0 else if k = 1 then i1 else if k = 2 then i2 else if k = 3 then i3 else if k = 4 then i4 else if k = 5 then i5 else if k = 6 then i6 else if k = 7 then i7 else i8), fun k q hq => ?_, fun k q hq => ?_⟩
  · match k, hq with
    | 0, hq => cases hq; exact k0
    | 1, hq => cases hq; exact k1
    | 2, hq => cases hq; exact k2
    | 3, hq => cases hq; exact k3
    | 4, hq => cases hq; exact k4
    | 5, hq => cases hq; exact k5
    | 6, hq => cases hq; exact k6
    | 7, hq => cases hq; exact k7
    | 8, hq => cases hq; exact k8
    | k + 9, hq => exact absurd hq (by simp [vwCl])
  · match k, hq with
    | 0, hq => cases hq; exact ⟨fun n z => ⟨fun k h => (by cases h), g0, q0, m0, r0⟩, p0⟩
    | 1, hq => cases hq; exact ⟨fun n z => ⟨fun k h => (by cases h), g1, q1, m1, r1⟩, p1⟩
    | 2, hq => cases hq; exact ⟨fun n z => ⟨fun k h => (by cases h), g2, q2, m2, r2⟩, ⟨g2, m2, q2, r2, p2, f2⟩⟩
    | 3, hq => cases hq; exact ⟨fun n z => ⟨fun k h => (by cases h), g3, q3, m3, r3⟩, ⟨g3, m3, q3, r3, p3, f3⟩⟩
    | 4, hq => cases hq; exact ⟨fun n z => ⟨fun k h => (by cases h), g4, q4, m4, r4⟩, ⟨g4, m4, q4, r4, p4, f4⟩⟩
    | 5, hq => cases hq; exact ⟨fun n z => ⟨fun k h => (by cases h), g5, q5, m5, r5⟩, p5⟩
    | 6, hq => cases hq; exact ⟨fun n z => ⟨fun k h => (by cases h), g6, q6, m6, r6⟩, p6⟩
    | k + 7, hq => exact absurd hq (by simp [px_tys])
theorem px_K0n : ∀ q ∈ px_nests, Cond.methodLinkNest q.1 q.2.1 q.2.2.1 q.2.2.2 ∈ lw_tbl := by decide +kernel
theorem px_K0e : ∀ E ∈ px_exs, Cond.castable E E ∈ lw_tbl := by decide +kernel
theorem px_K0d : ∀ Y ∈ px_decl, Cond.declares (Bundle.initS Y) ∈ lw_tbl := by decide +kernel
theorem px_K0t : ∀ q ∈ pt_T 9, Cond.stringRef RX9 q.1 q.2.2.2.2 ∈ lw_tbl := by decide +kernel
theorem px_K0c : ∀ E ∈ px_exs, ∀ E' ∈ px_exs, E ≠ E' → Cond.not (.castable E E') ∈ flatC (Jvm.Cond.and given_1 narrow_1) := by decide +kernel
theorem px_K0 (hts : ∀ w ∈ lw_tbl, w.before #[Value.ref b] s = true) (hX : va_X b L xs s s.heap) (hbl : b < s.heap.size) (hgv : (Jvm.Cond.and given_1 narrow_1).before #[Value.ref b] s = true) : ∃ (cy : Nat → ClassId) (D : va_G), px_K s.heap.size b L xs cy D s := by
  obtain ⟨cy, D, hK⟩ := px_K0a hts
  have hg := flat_of_before _ hgv
  obtain ⟨c9, i9, k9⟩ := u_known (C := RX9) (T := TX9) (N := 9) (n := 9) (ws := wsL_law) (fun w h => hts w (wsL_law_in w h)) inlX9 (hts (.instantiable RX9 9) (by decide +kernel))
  have hA : ∀ a : Nat, a < s.heap.size → ¬ s.heap.size ≤ a := fun a h => Nat.not_le.mpr h
  refine ⟨cy, D, hK, ?_, hX, hbl, Nat.le_refl _, ?_, ?_, ?_, ?_, ?_, ?_, ?_⟩
  · exact List.forall_mem_cons.mpr ⟨va_AO.of (hts (.arrayOver (.object RX2)) (by decide +kernel)), List.forall_mem_cons.mpr ⟨va_AO.of (hts (.arrayOver (.object RX7)) (by decide +kernel)), List.forall_mem_cons.mpr ⟨va_AO.of (hts (.arrayOver (.object RX5)) (by decide +kernel)), fun _ h => absurd h List.not_mem_nil⟩⟩⟩
  · exact vx_Zqof (hts (.laysStatic Bundle.tN "UNASSIGNED_STACK" Bundle.steD) (by decide +kernel)) (hts (.initialized Bundle.tN) (by decide +kernel)) (hg (.isRef (.static Bundle.tN "UNASSIGNED_STACK" Bundle.steD)) (by decide +kernel)) hA
  · exact vx_Zqof (hts (.laysStatic Bundle.tN "SUPPRESSED_SENTINEL" Bundle.listD) (by decide +kernel)) (hts (.initialized Bundle.tN) (by decide +kernel)) (hg (.isRef (.static Bundle.tN "SUPPRESSED_SENTINEL" Bundle.listD)) (by decide +kernel)) hA
  · exact fun q hq => va_Nw.of rfl (hts _ (px_K0n q hq))
  · exact fun E hE => va_Nw.of rfl (hts _ (px_K0e E hE))
  · exact fun E hE E' hE' hne => va_Nc.of (hg _ (px_K0c E hE E' hE' hne))
  · intro c q hq
    by_cases hc : c = 9
    · subst hc
      have hw := hts _ (px_K0t q hq)
      obtain ⟨_, _, _, a, _, _, _, _, _, e⟩ := Cond.stringRef_spec k9.2.1 hw
      exact ⟨a, vk_R.of hw e⟩
    · unfold pt_T at hq
      split at hq
      · exact absurd rfl hc
      · cases hq
  · exact fun Y hY => va_Nw.of rfl (hts _ (px_K0d Y hY))
theorem px_ret_I {rt : Option FieldType} {i : ClassFile.Instr} {st : List Value} {x : Int32} (hrt : rt = some .boolean) (h : px_ret rt i st = some (some (.int x))) : i = .ireturn ∧ st = [.int x] := by
  unfold px_ret at h
  split at h
  · cases h
  · cases hrt
  · split at h
    · cases h; exact ⟨rfl, rfl⟩
    · cases h
  · cases hrt
  · cases hrt
  · cases hrt
  · cases hrt
  · cases h
end PXZ
/-! THE CLAIM OUT OF ONE WALK OF THE LAW'S BODY. Your part is whole_start (and what it stands on); all else here is the same for every law, but numbers. -/
def R_law : String := "DateHemLaw"
def lw_P (b : Addr) (xs : List Int32) (args : Array Value) (s : State) : Prop := args = #[.ref b] ∧ s.IntsAt b xs ∧ xs.length ≤ 3072 ∧ (Jvm.Cond.and given_1 narrow_1).before args s = true
/-- what a walk over the start with the record d0 says of its end, said of the start itself -/
theorem lw_closed {s t : State} {o : Outcome} {d0 : Drawn} {L : List Loc} {k n : Nat} (hd0 : s.drawn.sameBut d0 lw_cs) (hv : ∃ v, o = .returned v) (hW : (s.setDrawn d0).WarmedH t.vm) (hs : (s.setDrawn d0).sameButNew ({ t with vm := s.vm } : State) L k n) : State.butDraws s t lw_cs (fun t1 => Framed s o t1 L k n) := by
  have h2 : t.drawn = d0 := congrArg State.drawn hs.1
  refine ⟨⟨hv, hW, State.sameButNew.setDrawn hs s.drawn⟩, ?_, by decide⟩
  rw [h2]
  exact hd0
def lw_Q (_ : Array Value) (s : State) (o : Outcome) (t : State) : Prop := o = .returned (some (.int 1)) ∧ State.butDraws s t lw_cs (fun t1 => Framed s o t1 [] 601024 7293034)
def lw_Z (below : List Frame) (a : Array Value) (s : State) : State → Prop := fun t => ∃ o, t.status = .running ∧ Ended t below o ∧ lw_Q a s o t
/-- the law's own end, with 1 on the stack, nothing written that was there before, its room as the claim has it; d0: the record of draws at this point (at the entry s.drawn: begin with 'refine W.base ?_' and 'have hd0 := Drawn.sameBut.refl s.drawn lw_cs') -/
theorem lw_ret {p : Program} {l : Launch} {e : Env} {s : State} {m : MethodId} {below : List Frame} {meth : Method} {c : Code} {b : Nat} {d0 : Drawn} (hd0 : s.drawn.sameBut d0 lw_cs) (hx : p.tables.exec = Jvm.exec) (hb : c.code = code) (hr : meth.sig.returnType = ret) (hlocks : meth.locks = false) {pc : Nat} {H : Heap} {ls : Array Slot} (hdg : decode code pc = .ok (.ireturn, 1)) : W p l e room_1 (s.setDrawn d0) m #[Value.ref b] below meth c H [] 601024 7293034 (lw_Z below #[Value.ref b] s) (F0 m pc ls [.int 1]) := by
  intro T hT X
  obtain ⟨fs, hret, hrun, hended, hW, hframe⟩ := X.leave (v := some (.int 1)) (hlocks := hlocks) (fun h => by rw [hr] at h; cases h)
  have hmeth' : T.vm.method? m = some meth := X.method'
  refine ⟨T.setFrames fs, ?_, .returned (some (.int 1)), hrun, hended, rfl, lw_closed hd0 ⟨_, rfl⟩ hW hframe⟩
  jvm_step X.here [X.here.top, hx, hb, hdg, hmeth', hr, ret, narrow_b1]
  (try refine ⟨rfl, ?_⟩); (try refine ⟨rfl, ?_⟩)
  first | (intro acts; rw [hret _ acts rfl rfl rfl]) | rw [hret _ _ rfl rfl rfl]
  exact Steps.refl _
/-- what holds at the law's entry: the machine, the code, the tables' words (any of lw_tbl by 'hts w (by decide +kernel)'), the script of L ints xs at the cell b, what the Statement gives of the start (any of its parts by flat_of_before) -/
def lw_At (p : Program) (s : State) (m : MethodId) (meth : Method) (c : Code) (b L : Nat) (xs : Nat → Int32) : Prop :=
  p.tables.exec = Jvm.exec ∧ c.code = code ∧ meth.sig.returnType = ret ∧ c.maxLocals = 10 ∧ s.vm.findClass R_law = some m.cls ∧ (∀ w ∈ lw_tbl, w.before #[Value.ref b] s = true) ∧ va_X b L xs s s.heap ∧ b < s.heap.size ∧ meth.locks = false ∧ (Jvm.Cond.and given_1 narrow_1).before #[Value.ref b] s = true ∧ c.exceptionTable.toList = []
/-- from the entry, for every script of at most 3072 ints, the law comes to its end with true -/
theorem whole_start {p : Program} {e : Env} {s : State} {m : MethodId} {below : List Frame} {meth : Method} {c : Code} (l : Launch) (hflags : l.flags = flags0) {b L : Nat} {xs : Nat → Int32} (hL : L ≤ 3072) (C0 : lw_At p s m meth c b L xs) : W p l e room_1 s m #[Value.ref b] below meth c s.heap [] 0 0 (lw_Z below #[Value.ref b] s) (entryFrame m ([Value.ref b] : List Value).toArray 10) := by
  obtain ⟨hx, hb, hr, hml, hown, hts, hX, hbl, hlocks, hgv, htab⟩ := id C0
  obtain ⟨cy, D, hK⟩ := px_K0 hts hX hbl hgv
  have hst : l.stackTraces = false := by
    unfold Launch.stackTraces
    rw [hflags]
    decide +kernel
  obtain ⟨X1, X2, X3, M1, M2, M3, h1, h2, h3, k1, k2, k3, hs0⟩ := hS_0st
  obtain ⟨X, hX1, hX2, hX3⟩ := whole_law (S := L) (xs := xs) (C := zC0) (ou := fun _ => 0) (od := fun _ => 0) (j := 0) hL hs0 (by omega)
  obtain ⟨n, hn⟩ := rc_law (S := L) (xs := xs) h1 h2 h3 k1 k2 k3 (rw_law hX1)
  rw [hX2] at hn
  have hk : pt_mt[412]? = some pt_r412 := rfl
  have hlen : (px_in0 (px_mx pt_r412) ([.retAddr 0] : List Value)).length = px_mx pt_r412 := rfl
  show W p l e room_1 s m (([.retAddr 0] : List Value).map (px_v s.heap.size b)).toArray below meth c s.heap [] 0 0 (lw_Z below #[Value.ref b] s) (entryFrame m (([.retAddr 0] : List Value).map (px_v s.heap.size b)).toArray (px_mx pt_r412))
  rw [lg_entry_eq]
  refine px_run (l := l) (B := s.heap.size) (b := b) (S := L) (xs := xs) (cy := cy) (D := D) hst n 412 pt_r412 0 _ [] ([], 0, 0, true) _ _ hk hn p e room_1 s m _ below meth c _ ⟨hx, hb, hml, hr, hlocks, hown, fun w hw => hts w (wsL_law_in w hw), hK, htab, fun hq => absurd hq (show ¬ ("law" : String) = "<init>" by decide), hst⟩ (Nat.le_of_ble_eq_true rfl) (Nat.le_of_ble_eq_true rfl) ?_ ?_ s.heap [] 0 0 _ (fun k q h => by simp [px_w] at h) va_S.rf (px_entry hlen) hlen (fun _ => Nat.le_refl _) ?_ ?_
  · intro v hv pc' ls' st' H' locs' cells' slots' i hd hrt hHR' hS' hc hs
    cases hv
    obtain ⟨rfl, rfl⟩ := px_ret_I rfl hrt
    refine va_forget (fun q hq => hS'.2.2 q hq) ?_
    refine W.widen (k := 601024) (n := 7293034) hc hs ?_
    refine W.base ?_
    exact lw_ret (Drawn.sameBut.refl s.drawn lw_cs) hx hb hr hlocks hd
  · intro E hE
    cases hE
  · show 0 + (((List.range 263).map _).length + X.2.2.2.2.2.2.2.2.2.2) ≤ 601024 + (0 + 0)
    rw [rg_len]
    omega
  · show 0 + (5036 + 6 * X.2.2.2.2.2.2.2.2.2.2) ≤ 7293034 + 0
    omega

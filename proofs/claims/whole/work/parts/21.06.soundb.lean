/-! THE PURE MACHINE IS THE MACHINE: the heap -/
section PXB
def px_e (B b : Nat) (cy : Nat → ClassId) (e : va_E) : va_E := match e with
  | .inl (t, n, .inr (.inr (.inr (.inr f)))) => .inl (cy t, n, .inr (.inr (.inr (.inr (fun j => (f j).map (fun a => B + a))))))
  | .inl (t, a) => .inl (cy t, a)
  | .inr (c, fs) => .inr (c, fs.map (px_v B b))
def px_w (B b : Nat) (cy : Nat → ClassId) (cs : List va_E) : va_W := cs.mapIdx (fun i e => (B + i, px_e B b cy e))
def px_tys (cy : Nat → ClassId) : List (ClassId × FieldType) := [(cy 0, .int), (cy 1, .byte), (cy 2, .object RX2), (cy 3, .object RX7), (cy 4, .object RX5), (cy 5, .long), (cy 6, .double)]
theorem px_w_get {B b : Nat} {cy : Nat → ClassId} {cs : List va_E} {a : Nat} {e : va_E} (h : cs[a]? = some e) : (px_w B b cy cs)[a]? = some (B + a, px_e B b cy e) := by
  simp [px_w, List.getElem?_mapIdx, h]
theorem px_w_at {B b : Nat} {cy : Nat → ClassId} {cs : List va_E} {k : Nat} {q : Nat × va_E} (h : (px_w B b cy cs)[k]? = some q) : ∃ e, cs[k]? = some e ∧ q = (B + k, px_e B b cy e) := by
  simp only [px_w, List.getElem?_mapIdx, Option.map_eq_some_iff] at h
  obtain ⟨e, h1, h2⟩ := h
  exact ⟨e, h1, h2.symm⟩
theorem px_w_set {B b : Nat} {cy : Nat → ClassId} (cs : List va_E) (a : Nat) (e : va_E) : (px_w B b cy cs).set a (B + a, px_e B b cy e) = px_w B b cy (cs.set a e) := by
  refine List.ext_getElem? (fun k => ?_)
  by_cases hk : k = a
  · subst hk
    by_cases hl : k < cs.length
    · rw [List.getElem?_set_self (by simpa [px_w] using hl)]
      exact (px_w_get (List.getElem?_set_self hl)).symm
    · rw [List.getElem?_eq_none (by simpa [px_w] using hl), List.getElem?_eq_none (by simpa [px_w] using hl)]
  · rw [List.getElem?_set_ne (fun z => hk z.symm)]
    simp [px_w, List.getElem?_mapIdx, List.getElem?_set_ne (fun z => hk z.symm)]
theorem px_w_push {B b : Nat} {cy : Nat → ClassId} (cs : List va_E) (e : va_E) : px_w B b cy (cs ++ [e]) = px_w B b cy cs ++ [(B + cs.length, px_e B b cy e)] := by
  simp [px_w, List.mapIdx_append]
theorem px_wD (B b : Nat) (cy : Nat → ClassId) (cs : List va_E) : va_D (fun q : Nat => B ≤ q) (px_w B b cy cs) := by
  refine ⟨fun i j x y hi hj hxy => ?_, fun k q hk => ?_⟩
  · obtain ⟨e1, -, h1⟩ := px_w_at hi
    obtain ⟨e2, -, h2⟩ := px_w_at hj
    subst h1; subst h2
    dsimp only at hxy
    omega
  · obtain ⟨e1, -, h1⟩ := px_w_at hk
    subst h1
    exact Nat.le_add_right ..
/-- the heap -/
def px_HR (B b : Nat) (cy : Nat → ClassId) (D : va_G) (h : px_H) (H : Heap) : Prop := va_P D vwCl (px_w B b cy h.1) H
def px_cnt (h : px_H) : Nat := h.1.length + h.2.1
theorem px_vrf (B b : Nat) (o : Option Nat) : px_v B b (va_rf o) = va_rf (o.map (fun a => B + a)) := by cases o <;> rfl
theorem px_vdef (B b : Nat) (ty : FieldType) : px_v B b (defaultValue ty) = defaultValue ty := by cases ty <;> rfl
theorem px_fit_ok {B b : Nat} {ty : FieldType} {v : Value} (h : px_fit ty v = true) : narrow ty (px_v B b v) = px_v B b v ∧ fits ty (px_v B b v) = true := by
  unfold px_fit at h
  split at h
  · exact ⟨rfl, rfl⟩
  · exact ⟨rfl, rfl⟩
  · rename_i x
    simp only [Bool.or_eq_true, decide_eq_true_eq] at h
    rcases h with rfl | rfl
    · exact ⟨rfl, rfl⟩
    · exact ⟨rfl, rfl⟩
  · exact ⟨rfl, rfl⟩
  · exact ⟨rfl, rfl⟩
  · cases h
theorem px_in_of {i : Int32} {n : Nat} (h : px_in i n = true) : vp_in i n := by
  simp only [px_in, Bool.not_eq_true', Bool.or_eq_false_iff, decide_eq_false_iff_not] at h
  exact fun z => z.elim h.1 h.2
theorem px_in_iff {i : Int32} {n : Nat} : px_in i n = true ↔ vp_in i n := ⟨px_in_of, fun h => by
  simp only [px_in, Bool.not_eq_true', Bool.or_eq_false_iff, decide_eq_false_iff_not]
  exact ⟨fun z => h (Or.inl z), fun z => h (Or.inr z)⟩⟩
theorem px_look {β : Type} {l : List (Nat × β)} {x : Nat} {v : β} (h : l.lookup x = some v) : (x, v) ∈ l := by
  induction l with
  | nil => cases h
  | cons q l ih =>
    obtain ⟨y, w⟩ := q
    rw [List.lookup_cons] at h
    split at h
    · rename_i hxy
      cases h
      rw [beq_iff_eq] at hxy
      subst hxy
      exact List.mem_cons_self
    · exact List.mem_cons_of_mem _ (ih h)
theorem px_wd_mem {k : Nat} {w : Cond} (h : px_wd k w = true) : w ∈ wsL_law := by
  have h1 : (px_rls.getD (k / 64) [])[k % 64]? = some w := of_decide_eq_true h
  have h2 : w ∈ px_rls.getD (k / 64) [] := List.mem_of_getElem? h1
  rw [List.getD_eq_getElem?_getD] at h2
  cases h3 : px_rls[k / 64]? with
  | none => rw [h3] at h2; cases h2
  | some l => rw [h3] at h2; exact px_rls_in l (List.mem_of_getElem? h3) w h2
theorem px_cl_at : ∀ c, c < 9 → vwCl[c]? = some (px_Cn c, px_T c, px_N c)
  | 0, _ => rfl
  | 1, _ => rfl
  | 2, _ => rfl
  | 3, _ => rfl
  | 4, _ => rfl
  | 5, _ => rfl
  | 6, _ => rfl
  | 7, _ => rfl
  | 8, _ => rfl
  | n + 9, h => absurd h (by omega)
theorem px_cl_in : ∀ c, c < 9 → ∀ w ∈ u_ws (px_Cn c) (px_T c) (px_N c), w ∈ wsL_law
  | 0, _ => inlX0
  | 1, _ => inlX2
  | 2, _ => inlX3
  | 3, _ => inlX4
  | 4, _ => inlX5
  | 5, _ => inlX6
  | 6, _ => inlX7
  | 7, _ => inlX9
  | 8, _ => inlX10
  | n + 9, h => absurd h (by omega)
theorem px_cl_ty : ∀ c, c < 9 → ∀ k, k < px_N c → parseFieldDescriptor (px_T c k).2.2.1 = some (px_ty c k)
  | 0, _ => tyX0_ok
  | 1, _ => tyX2_ok
  | 2, _ => tyX3_ok
  | 3, _ => tyX4_ok
  | 4, _ => tyX5_ok
  | 5, _ => tyX6_ok
  | 6, _ => tyX7_ok
  | 7, _ => tyX9_ok
  | 8, _ => tyX10_ok
  | n + 9, h => absurd h (by omega)
theorem px_cl_nm : ∀ c, c < 9 → ∀ a, a < px_N c → ∀ b, b < px_N c → a ≠ b → (px_T c a).2.1 ≠ (px_T c b).2.1
  | 0, _ => nmX0
  | 1, _ => nmX2
  | 2, _ => nmX3
  | 3, _ => nmX4
  | 4, _ => nmX5
  | 5, _ => nmX6
  | 6, _ => nmX7
  | 7, _ => nmX9
  | 8, _ => nmX10
  | n + 9, h => absurd h (by omega)
variable {p : Program} {l : Launch} {e : Env} {R : Room} {s : State} {m : MethodId} {args : Array Value} {below : List Frame} {meth : Method} {c : Code} {H : Heap} {locs : List Loc} {cells slots : Nat} {Q : State → Prop}
variable {cc : ByteArray} {B b pc len c0 S : Nat} {xs : Nat → Int32} {i : ClassFile.Instr} {ls : Array Slot} {st st' : List Value} {h h' : px_H} {cy : Nat → ClassId} {D : va_G} {ini : Bool}
theorem px_234 : ∀ t : Nat, 2 ≤ t → t ≤ 4 → t = 2 ∨ t = 3 ∨ t = 4 := fun _ _ _ => by omega
/-- where a new cell lies -/
theorem px_new_at {H1 : Heap} {cs : List va_E} {q : Nat} {e9 : va_E} (hP : va_P D vwCl (px_w B b cy cs ++ [(q, e9)]) H1) (hD : va_D (fun q : Nat => B ≤ q) (px_w B b cy cs ++ [(q, e9)])) (hz : H1.size ≤ B + cs.length + 1) : q = B + cs.length := by
  have hn : (px_w B b cy cs).length = cs.length := by simp [px_w]
  have hl : (px_w B b cy cs ++ [(q, e9)])[cs.length]? = some (q, e9) := by
    rw [List.getElem?_append_right (by omega), hn, Nat.sub_self]
    rfl
  have h1 : q < H1.size := (hP _ _ hl).lt
  have h2 : B ≤ q := hD.2 _ _ hl
  rcases Nat.lt_or_ge q (B + cs.length) with h3 | h3
  · have h4 : q - B < cs.length := by omega
    have h5 : (px_w B b cy cs)[q - B]? = some (B + (q - B), px_e B b cy cs[q - B]) := px_w_get (List.getElem?_eq_getElem h4)
    have h6 : (px_w B b cy cs ++ [(q, e9)])[q - B]? = some (B + (q - B), px_e B b cy cs[q - B]) := by
      rw [List.getElem?_append_left (by omega)]
      exact h5
    have h7 := hD.1 _ _ _ _ h6 hl (by dsimp only; omega)
    omega
  · omega
/-- the heap's size, out of the frame -/
theorem W.size9 {g : JFrame} (k : H.size ≤ s.heap.size + cells → W p l e R s m args below meth c H locs cells slots Q g) : W p l e R s m args below meth c H locs cells slots Q g := by
  intro T hT X
  exact k (by rw [← hT]; exact X.same.2.2.1) T hT X
theorem px_setR {cs : List va_E} {a : Nat} {e9 : va_E} {H1 : Heap} (h : va_P D vwCl ((px_w B b cy cs).set a (B + a, px_e B b cy e9)) H1) : va_P D vwCl (px_w B b cy (cs.set a e9)) H1 := by
  rw [px_w_set] at h
  exact h
theorem px_qup (B : Nat) (f : Nat → Option Nat) (k v : Nat) : (fun j => (va_up f k (some v) j).map (fun a => B + a)) = va_up (fun j => (f j).map (fun a => B + a)) k (some (B + v)) := by
  funext j
  unfold va_up
  split <;> rfl
theorem px_no {P : Prop} (h : false = true) : P := by cases h
theorem px_okM5 {c x j n : Nat} {ps : List Nat} (h : px_okM c (x, 5, j, n, ps) = true) : Cond.methodLink (pt_own c) x objectInit ∈ wsL_law ∧ Cond.instanceMethod objectInit ∈ wsL_law ∧ Cond.code objectInit ⟨#[0xb1]⟩ 1 none ∈ wsL_law := by
  match ps, h with
  | [a, b, d], h =>
    have h : (px_wd a (.methodLink (pt_own c) x objectInit) && px_wd b (.instanceMethod objectInit) && px_wd d (.code objectInit ⟨#[0xb1]⟩ 1 none)) = true := h
    simp only [Bool.and_eq_true] at h
    exact ⟨px_wd_mem h.1.1, px_wd_mem h.1.2, px_wd_mem h.2⟩
  | [], h => exact px_no h
  | [_], h => exact px_no h
  | [_, _], h => exact px_no h
  | _ :: _ :: _ :: _ :: _, h => exact px_no h
theorem px_okM6 {c x j n : Nat} {ps : List Nat} (h : px_okM c (x, 6, j, n, ps) = true) : Cond.methodLink (pt_own c) x arraycopyName ∈ wsL_law ∧ Cond.native arraycopyName ∈ wsL_law ∧ Cond.static arraycopyName ∈ wsL_law ∧ Cond.initialized "java/lang/System" ∈ wsL_law := by
  match ps, h with
  | [a, b, d, f], h =>
    have h : (px_wd a (.methodLink (pt_own c) x arraycopyName) && px_wd b (.native arraycopyName) && px_wd d (.static arraycopyName) && px_wd f (.initialized "java/lang/System")) = true := h
    simp only [Bool.and_eq_true] at h
    exact ⟨px_wd_mem h.1.1.1, px_wd_mem h.1.1.2, px_wd_mem h.1.2, px_wd_mem h.2⟩
  | [], h => exact px_no h
  | [_], h => exact px_no h
  | [_, _], h => exact px_no h
  | [_, _, _], h => exact px_no h
  | _ :: _ :: _ :: _ :: _ :: _, h => exact px_no h
theorem px_ldcwF {T : State} (X : Stand p l e R s m args below meth c T locs cells slots) (hexec : p.tables.exec = Jvm.exec) {own : String} {index : Nat} {v : UInt32} (hown : s.vm.findClass own = some m.cls)
    (hconst : (Cond.constantFloat own index v).before args s = true) {g : JFrame} (hg : g.method = m) (hdg : decode c.code g.pc = .ok (.ldc_w index, 3)) :
    ∀ target, Steps p.tables e below (T.setTop { g with pc := g.pc + 3, stack := .float v :: g.stack }) target → Steps p.tables e below (T.setTop g) target := by
  obtain ⟨k, cf, hk, hcf, hcp⟩ := Cond.constantFloat_spec hown hconst
  obtain ⟨k', hk', he⟩ := X.warmed.alike.2.2 _ _ hk
  intro target hrest
  subst hg
  jvm_step X.here [hexec, hdg, ldc_w.wp_float (s := T) (f := g) X.here.top hk' (by rw [he]; exact hcf) hcp]
  exact hrest
theorem px_ldcwf {cc : ByteArray} {pc : Nat} {ls : Array Slot} {rest : List Value} (hexec : p.tables.exec = Jvm.exec) (hb : c.code = cc) {own : String} {index : Nat} {v : UInt32} (hown : s.vm.findClass own = some m.cls) (hconst : (Jvm.Cond.constantFloat own index v).before args s = true) (hdg : decode cc pc = .ok (.ldc_w index, 3)) (k : W p l e R s m args below meth c H locs cells slots Q (F0 m (pc + 3) ls (.float v :: rest))) : W p l e R s m args below meth c H locs cells slots Q (F0 m pc ls rest) := by
  intro T hT X
  obtain ⟨t, a, b⟩ := k T hT X
  exact ⟨t, px_ldcwF X hexec hown hconst (g := F0 m pc ls rest) rfl (by rw [hb]; exact hdg) t a, b⟩
set_option maxHeartbeats 8000000 in
theorem px_whp (hx : p.tables.exec = Jvm.exec) (hb : c.code = cc) (hd : decode cc pc = .ok (i, len)) (hl : px_lenOk i len = true) (hown : s.vm.findClass (pt_own c0) = some m.cls) (hts : ∀ w ∈ wsL_law, w.before args s = true)
    (hK : va_K D vwCl (px_tys cy) s) (hAO : ∀ C ∈ [RX2, RX7, RX5], va_AO C s) (hAr : ∀ ty ∈ ([.int, .byte, .long, .double] : List FieldType), Cond.arrayClass ty ∈ wsL_law) (hX : va_X b S xs s s.heap) (hbB : b < B) (hBs : B ≤ s.heap.size) (hS : va_S (fun q : Nat => B ≤ q) s.heap H locs) (hini : ini = true → meth.name = "<init>") (hsize : ls.size = c.maxLocals)
    (hR : px_HR B b cy D h H) (hfr : h.2.2.2 = true → s.heap.size + cells ≤ B + h.1.length)
    (hF : (pt_F c0).all (px_okF c0) = true) (hN : (pt_N c0).all (px_okN c0) = true) (hKc : (pt_K c0).all (px_okK c0) = true) (hM : (pt_M c0).all (px_okM c0) = true)
    (hrk : ∀ x, (i = .invokespecial x → ∀ v, (pt_M c0).lookup x = some (5, v) → 1 ≤ R.frames ∧ 20 ≤ R.locals) ∧ (i = .invokestatic x → ∀ v, (pt_M c0).lookup x = some (6, v) → 1 ≤ R.frames ∧ 8 + (nativeFrameWords "java/lang/System" "arraycopy" 5 + 11) ≤ R.locals))
    (hh : px_hp c0 ini S xs i st h = some (st', h')) (hcl : cells + px_cnt h' ≤ R.cells + px_cnt h) (hsl : slots + h'.2.2.1 ≤ R.slots + h.2.2.1)
    (k : ∀ (H1 : Heap) (locs1 : List Loc) (cells1 slots1 : Nat), px_HR B b cy D h' H1 → va_S (fun q : Nat => B ≤ q) s.heap H1 locs1 → cells1 + px_cnt h = cells + px_cnt h' → slots1 + h.2.2.1 = slots + h'.2.2.1 → (h'.2.2.2 = true → s.heap.size + cells1 ≤ B + h'.1.length) →
      W p l e R s m args below meth c H1 locs1 cells1 slots1 Q (F0 m (pc + len) ls (st'.map (px_v B b)))) : W p l e R s m args below meth c H locs cells slots Q (F0 m pc ls (st.map (px_v B b))) := by
  have hP : va_P D vwCl (px_w B b cy h.1) H := hR
  have hD := px_wD B b cy h.1
  have hA : ∀ q, s.heap.size ≤ q → (fun q : Nat => B ≤ q) q := fun q hq => Nat.le_trans hBs hq
  have hbA : ¬ (fun q : Nat => B ≤ q) b := Nat.not_le.mpr hbB
  have hbl : b < s.heap.size := Nat.lt_of_lt_of_le hbB hBs
  have l3 : ∀ {n : Nat}, px_len i = n → (∀ d lo hi o, i ≠ .tableswitch d lo hi o) → len = n := by
    intro n hn ht
    unfold px_lenOk at hl
    split at hl
    · exact absurd rfl (ht _ _ _ _)
    · rw [← hn]; exact of_decide_eq_true hl
  have kk : ∀ (H1 : Heap) (locs1 : List Loc) (cs : List va_E), h' = (cs, h.2) → cs.length = h.1.length → va_P D vwCl (px_w B b cy cs) H1 → va_S (fun q : Nat => B ≤ q) s.heap H1 locs1 → W p l e R s m args below meth c H1 locs1 cells slots Q (F0 m (pc + len) ls (st'.map (px_v B b))) := by
    intro H1 locs1 cs e1 e2 hP1 hS1
    subst e1
    exact k H1 locs1 cells slots hP1 hS1 (by simp only [px_cnt, e2]) rfl (fun z => by dsimp only; rw [e2]; exact hfr z)
  have ks : h' = h → W p l e R s m args below meth c H locs cells slots Q (F0 m (pc + len) ls (st'.map (px_v B b))) := fun e1 => kk H locs h.1 e1 rfl hP hS
  have kset : ∀ (H1 : Heap) (locs1 : List Loc) (a : Nat) (e9 : va_E), h' = (h.1.set a e9, h.2) → va_P D vwCl ((px_w B b cy h.1).set a (B + a, px_e B b cy e9)) H1 → va_S (fun q : Nat => B ≤ q) s.heap H1 locs1 → W p l e R s m args below meth c H1 locs1 cells slots Q (F0 m (pc + len) ls (st'.map (px_v B b))) :=
    fun H1 locs1 a e9 e1 hP1 hS1 => kk H1 locs1 _ e1 (List.length_set ..) (px_setR hP1) hS1
  unfold px_hp at hh
  split at hh
  · -- getfield
    rename_i x a st0
    have hl := l3 (n := 3) rfl (fun _ _ _ _ z => by cases z)
    subst hl
    split at hh
    · rename_i ci fk ps cj fs hlk hcl0
      split at hh
      · rename_i hcc
        subst hcc
        obtain ⟨v, hv, e1⟩ := Option.map_eq_some_iff.mp hh
        cases e1
        have ho := List.all_eq_true.mp hF _ (px_look hlk)
        simp only [px_okF, Bool.and_eq_true, decide_eq_true_eq] at ho
        obtain ⟨⟨h9, hkN⟩, hw⟩ := ho
        refine va_get hx hb hts (px_cl_in cj h9) hown hK hP a (px_w_get hcl0) (px_cl_at cj h9) fk hkN (hts _ (px_wd_mem hw)) (fun _ h9 => h9) (v := px_v B b v) ?_ hd (ks rfl)
        rw [List.getElem?_map, hv]
        rfl
      · cases hh
    · cases hh
  · -- putfield
    rename_i x v a st0
    have hl := l3 (n := 3) rfl (fun _ _ _ _ z => by cases z)
    subst hl
    split at hh
    · rename_i ci fk ps cj fs hlk hcl0
      split at hh
      · rename_i hcc
        obtain ⟨e0, hk, hft, hfin⟩ := hcc
        subst e0
        cases hh
        have ho := List.all_eq_true.mp hF _ (px_look hlk)
        simp only [px_okF, Bool.and_eq_true, decide_eq_true_eq] at ho
        obtain ⟨⟨h9, hkN⟩, hw⟩ := ho
        obtain ⟨hn, hfit⟩ := px_fit_ok (B := B) (b := b) hft
        have hset : ((px_w B b cy h.1).set a (B + a, .inr (cj, (fs.map (px_v B b)).set fk (px_v B b v)))) = ((px_w B b cy h.1).set a (B + a, px_e B b cy (.inr (cj, fs.set fk v)))) := by
          simp only [px_e, List.map_set]
        by_cases hf : (px_T cj fk).2.2.2 = true
        · rcases hfin with hfin | ⟨hi9, hdecl⟩
          · rw [hf] at hfin; cases hfin
          · refine va_putF hx hb hts (px_cl_in cj h9) (px_ty cj) (px_cl_ty cj h9) (px_cl_nm cj h9) hown hK hP hD hS a (px_w_get hcl0) (px_cl_at cj h9) fk hkN (hts _ (px_wd_mem hw)) (fun _ h9 => h9) hf (hini hi9) hdecl (px_cl_ty cj h9 fk hkN) hn hfit (by rw [List.length_map]; exact hk) hd (fun H1 locs1 hP1 hD1 hS1 => ?_)
            rw [hset] at hP1
            exact kset H1 locs1 a _ rfl hP1 hS1
        · refine va_put hx hb hts (px_cl_in cj h9) (px_ty cj) (px_cl_ty cj h9) (px_cl_nm cj h9) hown hK hP hD hS a (px_w_get hcl0) (px_cl_at cj h9) fk hkN (hts _ (px_wd_mem hw)) (fun _ h9 => h9) (by simpa using hf) (px_cl_ty cj h9 fk hkN) hn hfit (by rw [List.length_map]; exact hk) hd (fun H1 locs1 hP1 hD1 hS1 => ?_)
          rw [hset] at hP1
          exact kset H1 locs1 a _ rfl hP1 hS1
      · cases hh
    · cases hh
  · -- iaload
    have hl := l3 (n := 1) rfl (fun _ _ _ _ z => by cases z)
    subst hl
    split at hh
    · rename_i hcl0
      split at hh
      · rename_i hin
        cases hh
        exact va_iald hx hb hK hP _ 0 (px_w_get hcl0) rfl (px_in_of hin) hd (ks rfl)
      · cases hh
    · cases hh
  · -- the script's
    have hl := l3 (n := 1) rfl (fun _ _ _ _ z => by cases z)
    subst hl
    split at hh
    · rename_i hin
      cases hh
      exact va_sld hx hb hX hbl hbA hS (px_in_of hin) hd (ks rfl)
    · cases hh
  · -- its length
    have hl := l3 (n := 1) rfl (fun _ _ _ _ z => by cases z)
    subst hl
    cases hh
    exact va_slen hx hb hX hbl hbA hS hd (ks rfl)
  · -- baload
    have hl := l3 (n := 1) rfl (fun _ _ _ _ z => by cases z)
    subst hl
    split at hh
    · rename_i hcl0
      split at hh
      · rename_i hin
        cases hh
        exact va_bald hx hb hK hP _ 1 (px_w_get hcl0) rfl (px_in_of hin) hd (ks rfl)
      · cases hh
    · cases hh
  · -- laload
    have hl := l3 (n := 1) rfl (fun _ _ _ _ z => by cases z)
    subst hl
    split at hh
    · rename_i hcl0
      split at hh
      · rename_i hin
        cases hh
        exact va_lald hx hb hK hP _ 5 (px_w_get hcl0) rfl (px_in_of hin) hd (ks rfl)
      · cases hh
    · cases hh
  · -- daload
    have hl := l3 (n := 1) rfl (fun _ _ _ _ z => by cases z)
    subst hl
    split at hh
    · rename_i hcl0
      split at hh
      · rename_i hin
        cases hh
        exact va_dald hx hb hK hP _ 6 (px_w_get hcl0) rfl (px_in_of hin) hd (ks rfl)
      · cases hh
    · cases hh
  · -- aaload
    have hl := l3 (n := 1) rfl (fun _ _ _ _ z => by cases z)
    subst hl
    split at hh
    · rename_i t n f hcl0
      split at hh
      · rename_i hin
        obtain ⟨hin, h2, h4⟩ := hin
        cases hh
        have ks9 := ks rfl
        rw [List.map_cons, px_vrf] at ks9
        rcases px_234 t h2 h4 with e0 | e0 | e0
        · subst e0; exact va_aldq hx hb hK hP _ 2 (C := RX2) (px_w_get hcl0) rfl (px_in_of hin) hd ks9
        · subst e0; exact va_aldq hx hb hK hP _ 3 (C := RX7) (px_w_get hcl0) rfl (px_in_of hin) hd ks9
        · subst e0; exact va_aldq hx hb hK hP _ 4 (C := RX5) (px_w_get hcl0) rfl (px_in_of hin) hd ks9
      · cases hh
    · cases hh
  · -- iastore
    have hl := l3 (n := 1) rfl (fun _ _ _ _ z => by cases z)
    subst hl
    split at hh
    · rename_i hcl0
      split at hh
      · rename_i hin
        cases hh
        exact va_iast hx hb hK hP hD hS _ 0 (px_w_get hcl0) rfl (px_in_of hin) hd (fun H1 locs1 hP1 hD1 hS1 => kset H1 locs1 _ _ rfl hP1 hS1)
      · cases hh
    · cases hh
  · -- bastore
    have hl := l3 (n := 1) rfl (fun _ _ _ _ z => by cases z)
    subst hl
    split at hh
    · rename_i hcl0
      split at hh
      · rename_i hin
        cases hh
        exact va_bast hx hb hK hP hD hS _ 1 (px_w_get hcl0) rfl (px_in_of hin) hd (fun H1 locs1 hP1 hD1 hS1 => kset H1 locs1 _ _ rfl hP1 hS1)
      · cases hh
    · cases hh
  · -- lastore
    have hl := l3 (n := 1) rfl (fun _ _ _ _ z => by cases z)
    subst hl
    split at hh
    · rename_i hcl0
      split at hh
      · rename_i hin
        cases hh
        exact va_last hx hb hK hP hD hS _ 5 (px_w_get hcl0) rfl (px_in_of hin) hd (fun H1 locs1 hP1 hD1 hS1 => kset H1 locs1 _ _ rfl hP1 hS1)
      · cases hh
    · cases hh
  · -- dastore
    have hl := l3 (n := 1) rfl (fun _ _ _ _ z => by cases z)
    subst hl
    split at hh
    · rename_i hcl0
      split at hh
      · rename_i hin
        cases hh
        exact va_dast hx hb hK hP hD hS _ 6 (px_w_get hcl0) rfl (px_in_of hin) hd (fun H1 locs1 hP1 hD1 hS1 => kset H1 locs1 _ _ rfl hP1 hS1)
      · cases hh
    · cases hh
  · -- aastore
    rename_i v ix a st0
    have hl := l3 (n := 1) rfl (fun _ _ _ _ z => by cases z)
    subst hl
    split at hh
    · rename_i t n f cv vs hcl0 hv0
      split at hh
      · rename_i hin
        obtain ⟨hin, h2, h4, hcv⟩ := hin
        subst hcv
        cases hh
        have eq9 : ∀ u : Nat, px_e B b cy (.inl (u, n, .inr (.inr (.inr (.inr (va_up f ix.toNatClampNeg (some v))))))) = .inl (cy u, n, .inr (.inr (.inr (.inr (va_up (fun j => (f j).map (fun a => B + a)) ix.toNatClampNeg (some (B + v))))))) := by
          intro u
          show Sum.inl (cy u, n, Sum.inr (Sum.inr (Sum.inr (Sum.inr (fun j => (va_up f ix.toNatClampNeg (some v) j).map (fun a => B + a)))))) = _
          rw [px_qup]
        rcases px_234 t h2 h4 with e0 | e0 | e0
        · subst e0; exact va_astq hx hb hK hP hD hS a 2 v 1 (r := (RX2, TX2, 8)) (px_w_get hcl0) rfl (px_w_get hv0) rfl (px_in_of hin) hd (fun H1 locs1 hP1 hD1 hS1 => kset H1 locs1 a _ rfl (by rw [eq9]; exact hP1) hS1)
        · subst e0; exact va_astq hx hb hK hP hD hS a 3 v 6 (r := (RX7, TX7, 8)) (px_w_get hcl0) rfl (px_w_get hv0) rfl (px_in_of hin) hd (fun H1 locs1 hP1 hD1 hS1 => kset H1 locs1 a _ rfl (by rw [eq9]; exact hP1) hS1)
        · subst e0; exact va_astq hx hb hK hP hD hS a 4 v 4 (r := (RX5, TX5, 4)) (px_w_get hcl0) rfl (px_w_get hv0) rfl (px_in_of hin) hd (fun H1 locs1 hP1 hD1 hS1 => kset H1 locs1 a _ rfl (by rw [eq9]; exact hP1) hS1)
      · cases hh
    · cases hh
  · -- new
    rename_i x
    have hl := l3 (n := 3) rfl (fun _ _ _ _ z => by cases z)
    subst hl
    split at hh
    · rename_i ci ps hlk
      split at hh
      · rename_i hfl
        cases hh
        have ho := List.all_eq_true.mp hN _ (px_look hlk)
        simp only [px_okN, Bool.and_eq_true, decide_eq_true_eq] at ho
        obtain ⟨⟨⟨h9, hw1⟩, hw2⟩, hw3⟩ := ho
        simp only [px_cnt, List.length_append, List.length_singleton] at hcl
        refine va_new (fs := (px_new ci).map (px_v B b)) hx hb hts (px_cl_in ci h9) (px_ty ci) (px_cl_ty ci h9) hown (hts _ (px_wd_mem hw1)) (hts _ (px_wd_mem hw2)) (hts _ (px_wd_mem hw3)) hK hP hD hS hA (px_cl_at ci h9) (fun j hj => ?_) (by omega) (by dsimp only at hsl; omega) hd (fun q H1 hP1 hD1 hS1 => ?_)
        · simp [vp_V, px_new, List.getElem?_range, hj, px_vdef]
        · refine W.size9 (fun hsz1 => ?_)
          have hf9 := hfr hfl
          have hq := px_new_at (e9 := .inr (ci, (px_new ci).map (px_v B b))) hP1 hD1 (by omega)
          subst hq
          have hP2 : va_P D vwCl (px_w B b cy (h.1 ++ [.inr (ci, px_new ci)])) H1 := by rw [px_w_push]; exact hP1
          exact k H1 locs (cells + 1) (slots + px_N ci) hP2 hS1 (by simp only [px_cnt, List.length_append, List.length_singleton]; omega) (by dsimp only; omega) (fun _ => by simp only [List.length_append, List.length_singleton]; omega)
      · cases hh
    · cases hh
  · -- newarray
    rename_i t n st0
    have hl := l3 (n := 2) rfl (fun _ _ _ _ z => by cases z)
    subst hl
    split at hh
    · rename_i hc9
      obtain ⟨hfl, hn0, hn9⟩ := hc9
      have hf9 := hfr hfl
      split at hh
      · cases hh
        simp only [px_cnt, List.length_append, List.length_singleton] at hcl
        refine va_newa (atype := .int) (ty := .int) (a0 := (n.toNatClampNeg, .inl (fun _ => 0))) hx hb (hts _ (hAr .int (by simp))) rfl hK hP hD hS hA (fun _ => rfl) hn0 rfl (Nat.le_trans (Nat.mul_le_mul hn9 (show componentBytes FieldType.int ≤ 8 by decide)) (by decide)) (by omega) (by dsimp only at hsl; omega) hd (fun q cA H1 hK1 hP1 hD1 hS1 => ?_)
        have hcA : cA = cy 0 := by
          have h1 : s.vm.findClass _ = some cA := (hK1.2 7 _ rfl).2
          have h2 : s.vm.findClass _ = some (cy 0) := (hK.2 0 _ rfl).2
          exact Option.some.inj (h1.symm.trans h2)
        subst hcA
        refine W.size9 (fun hsz1 => ?_)
        have hq := px_new_at (e9 := .inl (cy 0, n.toNatClampNeg, .inl (fun _ => 0))) hP1 hD1 (by omega)
        subst hq
        have hP2 : va_P D vwCl (px_w B b cy (h.1 ++ [.inl (0, n.toNatClampNeg, .inl (fun _ => 0))])) H1 := by rw [px_w_push]; exact hP1
        exact k H1 locs (cells + 1) (slots + n.toNatClampNeg) hP2 hS1 (by simp only [px_cnt, List.length_append, List.length_singleton]; omega) (by dsimp only; omega) (fun _ => by simp only [List.length_append, List.length_singleton]; omega)
      · cases hh
        simp only [px_cnt, List.length_append, List.length_singleton] at hcl
        refine va_newa (atype := .byte) (ty := .byte) (a0 := (n.toNatClampNeg, .inl (fun _ => 0))) hx hb (hts _ (hAr .byte (by simp))) rfl hK hP hD hS hA (fun _ => rfl) hn0 rfl (Nat.le_trans (Nat.mul_le_mul hn9 (show componentBytes FieldType.byte ≤ 8 by decide)) (by decide)) (by omega) (by dsimp only at hsl; omega) hd (fun q cA H1 hK1 hP1 hD1 hS1 => ?_)
        have hcA : cA = cy 1 := by
          have h1 : s.vm.findClass _ = some cA := (hK1.2 7 _ rfl).2
          have h2 : s.vm.findClass _ = some (cy 1) := (hK.2 1 _ rfl).2
          exact Option.some.inj (h1.symm.trans h2)
        subst hcA
        refine W.size9 (fun hsz1 => ?_)
        have hq := px_new_at (e9 := .inl (cy 1, n.toNatClampNeg, .inl (fun _ => 0))) hP1 hD1 (by omega)
        subst hq
        have hP2 : va_P D vwCl (px_w B b cy (h.1 ++ [.inl (1, n.toNatClampNeg, .inl (fun _ => 0))])) H1 := by rw [px_w_push]; exact hP1
        exact k H1 locs (cells + 1) (slots + n.toNatClampNeg) hP2 hS1 (by simp only [px_cnt, List.length_append, List.length_singleton]; omega) (by dsimp only; omega) (fun _ => by simp only [List.length_append, List.length_singleton]; omega)
      · cases hh
        simp only [px_cnt, List.length_append, List.length_singleton] at hcl
        refine va_newa (atype := .long) (ty := .long) (a0 := (n.toNatClampNeg, .inr (.inl (fun _ => 0)))) hx hb (hts _ (hAr .long (by simp))) rfl hK hP hD hS hA (fun _ => rfl) hn0 rfl (Nat.le_trans (Nat.mul_le_mul hn9 (show componentBytes FieldType.long ≤ 8 by decide)) (by decide)) (by omega) (by dsimp only at hsl; omega) hd (fun q cA H1 hK1 hP1 hD1 hS1 => ?_)
        have hcA : cA = cy 5 := by
          have h1 : s.vm.findClass _ = some cA := (hK1.2 7 _ rfl).2
          have h2 : s.vm.findClass _ = some (cy 5) := (hK.2 5 _ rfl).2
          exact Option.some.inj (h1.symm.trans h2)
        subst hcA
        refine W.size9 (fun hsz1 => ?_)
        have hq := px_new_at (e9 := .inl (cy 5, n.toNatClampNeg, .inr (.inl (fun _ => 0)))) hP1 hD1 (by omega)
        subst hq
        have hP2 : va_P D vwCl (px_w B b cy (h.1 ++ [.inl (5, n.toNatClampNeg, .inr (.inl (fun _ => 0)))])) H1 := by rw [px_w_push]; exact hP1
        exact k H1 locs (cells + 1) (slots + n.toNatClampNeg) hP2 hS1 (by simp only [px_cnt, List.length_append, List.length_singleton]; omega) (by dsimp only; omega) (fun _ => by simp only [List.length_append, List.length_singleton]; omega)
      · cases hh
        simp only [px_cnt, List.length_append, List.length_singleton] at hcl
        refine va_newa (atype := .double) (ty := .double) (a0 := (n.toNatClampNeg, .inr (.inr (.inr (.inl (fun _ => 0)))))) hx hb (hts _ (hAr .double (by simp))) rfl hK hP hD hS hA (fun _ => rfl) hn0 rfl (Nat.le_trans (Nat.mul_le_mul hn9 (show componentBytes FieldType.double ≤ 8 by decide)) (by decide)) (by omega) (by dsimp only at hsl; omega) hd (fun q cA H1 hK1 hP1 hD1 hS1 => ?_)
        have hcA : cA = cy 6 := by
          have h1 : s.vm.findClass _ = some cA := (hK1.2 7 _ rfl).2
          have h2 : s.vm.findClass _ = some (cy 6) := (hK.2 6 _ rfl).2
          exact Option.some.inj (h1.symm.trans h2)
        subst hcA
        refine W.size9 (fun hsz1 => ?_)
        have hq := px_new_at (e9 := .inl (cy 6, n.toNatClampNeg, .inr (.inr (.inr (.inl (fun _ => 0)))))) hP1 hD1 (by omega)
        subst hq
        have hP2 : va_P D vwCl (px_w B b cy (h.1 ++ [.inl (6, n.toNatClampNeg, .inr (.inr (.inr (.inl (fun _ => 0)))))])) H1 := by rw [px_w_push]; exact hP1
        exact k H1 locs (cells + 1) (slots + n.toNatClampNeg) hP2 hS1 (by simp only [px_cnt, List.length_append, List.length_singleton]; omega) (by dsimp only; omega) (fun _ => by simp only [List.length_append, List.length_singleton]; omega)
      · cases hh
    · cases hh
  · -- anewarray
    rename_i x n st0
    have hl := l3 (n := 3) rfl (fun _ _ _ _ z => by cases z)
    subst hl
    split at hh
    · rename_i ci ps hlk
      split at hh
      · rename_i hc9
        obtain ⟨hfl, hn0, hn9⟩ := hc9
        have hf9 := hfr hfl
        have ho := List.all_eq_true.mp hN _ (px_look hlk)
        simp only [px_okN, Bool.and_eq_true, decide_eq_true_eq] at ho
        obtain ⟨⟨⟨h9, hw1⟩, hw2⟩, hw3⟩ := ho
        split at hh
        · cases hh
          simp only [px_cnt, List.length_append, List.length_singleton] at hcl
          refine va_newq (C := RX2) (N' := n.toNatClampNeg) hx hb hown (hts _ (px_wd_mem hw1)) (hAO _ (by simp)) hK hP hD hS hA hn0 rfl (Nat.le_trans (Nat.mul_le_mul_right 4 hn9) (by decide)) (by omega) (by dsimp only at hsl; omega) hd (fun q cA H1 hK1 hP1 hD1 hS1 => ?_)
          have hcA : cA = cy 2 := by
            obtain ⟨_, _, -, -, -, h1⟩ := (hK1.2 7 (cA, .object RX2) rfl).2
            obtain ⟨_, _, -, -, -, h2⟩ := (hK.2 2 (cy 2, .object RX2) rfl).2
            exact Option.some.inj (h1.symm.trans h2)
          subst hcA
          refine W.size9 (fun hsz1 => ?_)
          have hq := px_new_at (e9 := .inl (cy 2, n.toNatClampNeg, .inr (.inr (.inr (.inr (fun _ => none)))))) hP1 hD1 (by omega)
          subst hq
          have hP2 : va_P D vwCl (px_w B b cy (h.1 ++ [.inl (2, n.toNatClampNeg, .inr (.inr (.inr (.inr (fun _ => none)))))])) H1 := by rw [px_w_push]; exact hP1
          exact k H1 locs (cells + 1) (slots + n.toNatClampNeg) hP2 hS1 (by simp only [px_cnt, List.length_append, List.length_singleton]; omega) (by dsimp only; omega) (fun _ => by simp only [List.length_append, List.length_singleton]; omega)
        · cases hh
          simp only [px_cnt, List.length_append, List.length_singleton] at hcl
          refine va_newq (C := RX7) (N' := n.toNatClampNeg) hx hb hown (hts _ (px_wd_mem hw1)) (hAO _ (by simp)) hK hP hD hS hA hn0 rfl (Nat.le_trans (Nat.mul_le_mul_right 4 hn9) (by decide)) (by omega) (by dsimp only at hsl; omega) hd (fun q cA H1 hK1 hP1 hD1 hS1 => ?_)
          have hcA : cA = cy 3 := by
            obtain ⟨_, _, -, -, -, h1⟩ := (hK1.2 7 (cA, .object RX7) rfl).2
            obtain ⟨_, _, -, -, -, h2⟩ := (hK.2 3 (cy 3, .object RX7) rfl).2
            exact Option.some.inj (h1.symm.trans h2)
          subst hcA
          refine W.size9 (fun hsz1 => ?_)
          have hq := px_new_at (e9 := .inl (cy 3, n.toNatClampNeg, .inr (.inr (.inr (.inr (fun _ => none)))))) hP1 hD1 (by omega)
          subst hq
          have hP2 : va_P D vwCl (px_w B b cy (h.1 ++ [.inl (3, n.toNatClampNeg, .inr (.inr (.inr (.inr (fun _ => none)))))])) H1 := by rw [px_w_push]; exact hP1
          exact k H1 locs (cells + 1) (slots + n.toNatClampNeg) hP2 hS1 (by simp only [px_cnt, List.length_append, List.length_singleton]; omega) (by dsimp only; omega) (fun _ => by simp only [List.length_append, List.length_singleton]; omega)
        · cases hh
          simp only [px_cnt, List.length_append, List.length_singleton] at hcl
          refine va_newq (C := RX5) (N' := n.toNatClampNeg) hx hb hown (hts _ (px_wd_mem hw1)) (hAO _ (by simp)) hK hP hD hS hA hn0 rfl (Nat.le_trans (Nat.mul_le_mul_right 4 hn9) (by decide)) (by omega) (by dsimp only at hsl; omega) hd (fun q cA H1 hK1 hP1 hD1 hS1 => ?_)
          have hcA : cA = cy 4 := by
            obtain ⟨_, _, -, -, -, h1⟩ := (hK1.2 7 (cA, .object RX5) rfl).2
            obtain ⟨_, _, -, -, -, h2⟩ := (hK.2 4 (cy 4, .object RX5) rfl).2
            exact Option.some.inj (h1.symm.trans h2)
          subst hcA
          refine W.size9 (fun hsz1 => ?_)
          have hq := px_new_at (e9 := .inl (cy 4, n.toNatClampNeg, .inr (.inr (.inr (.inr (fun _ => none)))))) hP1 hD1 (by omega)
          subst hq
          have hP2 : va_P D vwCl (px_w B b cy (h.1 ++ [.inl (4, n.toNatClampNeg, .inr (.inr (.inr (.inr (fun _ => none)))))])) H1 := by rw [px_w_push]; exact hP1
          exact k H1 locs (cells + 1) (slots + n.toNatClampNeg) hP2 hS1 (by simp only [px_cnt, List.length_append, List.length_singleton]; omega) (by dsimp only; omega) (fun _ => by simp only [List.length_append, List.length_singleton]; omega)
        · cases hh
      · cases hh
    · cases hh
  · -- ldc
    rename_i x
    have hl := l3 (n := 2) rfl (fun _ _ _ _ z => by cases z)
    subst hl
    split at hh
    · rename_i hlk
      cases hh
      have ho := List.all_eq_true.mp hKc _ (px_look hlk)
      exact lv_ldc hx hb hown (hts _ (px_wd_mem ho)) hd (ks rfl)
    · rename_i hlk
      cases hh
      have ho := List.all_eq_true.mp hKc _ (px_look hlk)
      exact lv_ldcf hx hb hown (hts _ (px_wd_mem ho)) hd (ks rfl)
    · cases hh
  · -- ldc_w
    rename_i x
    have hl := l3 (n := 3) rfl (fun _ _ _ _ z => by cases z)
    subst hl
    split at hh
    · rename_i hlk
      cases hh
      have ho := List.all_eq_true.mp hKc _ (px_look hlk)
      exact lv_ldcw hx hb hown (hts _ (px_wd_mem ho)) hd (ks rfl)
    · rename_i hlk
      cases hh
      have ho := List.all_eq_true.mp hKc _ (px_look hlk)
      exact px_ldcwf hx hb hown (hts _ (px_wd_mem ho)) hd (ks rfl)
    · cases hh
  · -- ldc2_w
    rename_i x
    have hl := l3 (n := 3) rfl (fun _ _ _ _ z => by cases z)
    subst hl
    split at hh
    · rename_i hlk
      cases hh
      have ho := List.all_eq_true.mp hKc _ (px_look hlk)
      exact lv_ldc2 hx hb hown (hts _ (px_wd_mem ho)) hd (ks rfl)
    · cases hh
  · -- Object's constructor
    rename_i x a st0
    have hl := l3 (n := 3) rfl (fun _ _ _ _ z => by cases z)
    subst hl
    split at hh
    · rename_i ps hlk
      split at hh
      · rename_i hst
        cases hh
        have ho := List.all_eq_true.mp hM _ (px_look hlk)
        obtain ⟨hr1, hr2⟩ := (hrk x).1 rfl _ hlk
        obtain ⟨w1, w2, w3⟩ := px_okM5 ho
        have h12 : (st'.map fun v => v.category).sum ≤ 8 := hst
        refine W.objInit hx hb hown (hts _ w1) (hts _ w2) (hts _ w3) rfl hsize rfl hd hr1 ?_ (ks rfl)
        show 2 * 0 + ((st'.map (px_v B b)).map fun v => v.category).sum + 12 ≤ R.locals
        rw [px_cats]
        omega
      · cases hh
    · cases hh
  · -- arraycopy
    rename_i x n dp a sp a0 st0
    have hl := l3 (n := 3) rfl (fun _ _ _ _ z => by cases z)
    subst hl
    split at hh
    · rename_i ps n0 f n1 g hlk h0 h1
      split at hh
      · rename_i hst
        obtain ⟨h1s, h2s, h3s, h4s, h5s, h6s⟩ := hst
        cases hh
        have ho := List.all_eq_true.mp hM _ (px_look hlk)
        obtain ⟨hr1, hr2⟩ := (hrk x).2 rfl _ hlk
        obtain ⟨w1, w2, w3, w4⟩ := px_okM6 ho
        exact va_copyi hx hb hsize.symm hown (hts _ w1) (hts _ w2) (hts _ w3) (hts _ w4) hK hP hD hS a0 a 0 0 (px_w_get h0) (px_w_get h1) rfl rfl rfl h1s h2s h3s h4s h5s (fun _ _ => rfl) hr1 (by rw [px_cats]; omega) hd (fun H1 locs1 hP1 hD1 hS1 => kset H1 locs1 a _ rfl hP1 hS1)
      · cases hh
    · cases hh
  · cases hh
end PXB

/-! THE PURE MACHINE IS THE MACHINE: the heap -/
section PXB
def px_e (B b : Nat) (cy : Nat → ClassId) (e : va_E) : va_E := match e with
  | .inl (t, n, .inr (.inr (.inr (.inr f)))) => .inl (cy t, n, .inr (.inr (.inr (.inr (fun j => (f j).map (fun a => B + a))))))
  | .inl (t, a) => .inl (cy t, a)
  | .inr (c, fs) => .inr (c, fs.map (px_v B b))
def px_w (B b : Nat) (cy : Nat → ClassId) (cs : List va_E) : va_W := cs.mapIdx (fun i e => (B + i, px_e B b cy e))
def px_tys (cy : Nat → ClassId) : List (ClassId × FieldType) := [(cy 0, .int), (cy 1, .byte), (cy 2, .object RX2), (cy 3, .object RX7), (cy 4, .object RX5), (cy 5, .long), (cy 6, .double)]
theorem px_w_get {B b : Nat} {cy : Nat → ClassId} {cs : List va_E} {a : Nat} {e : va_E} (h : cs[a]? = some e) : (px_w B b cy cs)[a]? = some (B + a, px_e B b cy e) := by
  simp [px_w, List.getElem?_mapIdx, h]
theorem px_w_at {B b : Nat} {cy : Nat → ClassId} {cs : List va_E} {k : Nat} {q : Nat × va_E} (h : (px_w B b cy cs)[k]? = some q) : ∃ e, cs[k]? = some e ∧ q = (B + k, px_e B b cy e) := by
  simp only [px_w, List.getElem?_mapIdx, Option.map_eq_some_iff] at h
  obtain ⟨e, h1, h2⟩ := h
  exact ⟨e, h1, h2.symm⟩
theorem px_w_set {B b : Nat} {cy : Nat → ClassId} (cs : List va_E) (a : Nat) (e : va_E) : (px_w B b cy cs).set a (B + a, px_e B b cy e) = px_w B b cy (cs.set a e) := by
  refine List.ext_getElem? (fun k => ?_)
  by_cases hk : k = a
  · subst hk
    by_cases hl : k < cs.length
    · rw [List.getElem?_set_self (by simpa [px_w] using hl)]
      exact (px_w_get (List.getElem?_set_self hl)).symm
    · rw [List.getElem?_eq_none (by simpa [px_w] using hl), List.getElem?_eq_none (by simpa [px_w] using hl)]
  · rw [List.getElem?_set_ne (fun z => hk z.symm)]
    simp [px_w, List.getElem?_mapIdx, List.getElem?_set_ne (fun z => hk z.symm)]
theorem px_w_push {B b : Nat} {cy : Nat → ClassId} (cs : List va_E) (e : va_E) : px_w B b cy (cs ++ [e]) = px_w B b cy cs ++ [(B + cs.length, px_e B b cy e)] := by
  simp [px_w, List.mapIdx_append]
theorem px_wD (B b : Nat) (cy : Nat → ClassId) (cs : List va_E) : va_D (fun q : Nat => B ≤ q) (px_w B b cy cs) := by
  refine ⟨fun i j x y hi hj hxy => ?_, fun k q hk => ?_⟩
  · obtain ⟨e1, -, h1⟩ := px_w_at hi
    obtain ⟨e2, -, h2⟩ := px_w_at hj
    subst h1; subst h2
    dsimp only at hxy
    omega
  · obtain ⟨e1, -, h1⟩ := px_w_at hk
    subst h1
    exact Nat.le_add_right ..
/-- the heap -/
def px_HR (B b : Nat) (cy : Nat → ClassId) (D : va_G) (h : px_H) (H : Heap) : Prop := va_P D vwCl (px_w B b cy h.1) H
def px_cnt (h : px_H) : Nat := h.1.length + h.2.1
theorem px_vrf (B b : Nat) (o : Option Nat) : px_v B b (va_rf o) = va_rf (o.map (fun a => B + a)) := by cases o <;> rfl
theorem px_vdef (B b : Nat) (ty : FieldType) : px_v B b (defaultValue ty) = defaultValue ty := by cases ty <;> rfl
theorem px_fit_ok {B b : Nat} {ty : FieldType} {v : Value} (h : px_fit ty v = true) : narrow ty (px_v B b v) = px_v B b v ∧ fits ty (px_v B b v) = true := by
  unfold px_fit at h
  split at h
  · exact ⟨rfl, rfl⟩
  · exact ⟨rfl, rfl⟩
  · rename_i x
    simp only [Bool.or_eq_true, decide_eq_true_eq] at h
    rcases h with rfl | rfl
    · exact ⟨by decide, by decide⟩
    · exact ⟨by decide, by decide⟩
  · exact ⟨rfl, rfl⟩
  · exact ⟨rfl, rfl⟩
  · cases h
theorem px_in_of {i : Int32} {n : Nat} (h : px_in i n = true) : vp_in i n := by
  simp only [px_in, Bool.not_eq_true', Bool.or_eq_false_iff, decide_eq_false_iff_not] at h
  exact fun z => z.elim h.1 h.2
theorem px_in_iff {i : Int32} {n : Nat} : px_in i n = true ↔ vp_in i n := ⟨px_in_of, fun h => by
  simp only [px_in, Bool.not_eq_true', Bool.or_eq_false_iff, decide_eq_false_iff_not]
  exact ⟨fun z => h (Or.inl z), fun z => h (Or.inr z)⟩⟩
theorem px_look {β : Type} {l : List (Nat × β)} {x : Nat} {v : β} (h : l.lookup x = some v) : (x, v) ∈ l := by
  induction l with
  | nil => cases h
  | cons q l ih =>
    obtain ⟨y, w⟩ := q
    rw [List.lookup_cons] at h
    split at h
    · rename_i hxy
      cases h
      rw [beq_iff_eq] at hxy
      subst hxy
      exact List.mem_cons_self
    · exact List.mem_cons_of_mem _ (ih h)
theorem px_wd_mem {k : Nat} {w : Cond} (h : px_wd k w = true) : w ∈ wsL_law := List.mem_of_getElem? (of_decide_eq_true h)
theorem px_cl_at : ∀ c, c < 9 → vwCl[c]? = some (px_Cn c, px_T c, px_N c)
  | 0, _ => rfl
  | 1, _ => rfl
  | 2, _ => rfl
  | 3, _ => rfl
  | 4, _ => rfl
  | 5, _ => rfl
  | 6, _ => rfl
  | 7, _ => rfl
  | 8, _ => rfl
  | n + 9, h => absurd h (by omega)
theorem px_cl_in : ∀ c, c < 9 → ∀ w ∈ u_ws (px_Cn c) (px_T c) (px_N c), w ∈ wsL_law
  | 0, _ => inlX0
  | 1, _ => inlX2
  | 2, _ => inlX3
  | 3, _ => inlX4
  | 4, _ => inlX5
  | 5, _ => inlX6
  | 6, _ => inlX7
  | 7, _ => inlX9
  | 8, _ => inlX10
  | n + 9, h => absurd h (by omega)
theorem px_cl_ty : ∀ c, c < 9 → ∀ k, k < px_N c → parseFieldDescriptor (px_T c k).2.2.1 = some (px_ty c k)
  | 0, _ => tyX0_ok
  | 1, _ => tyX2_ok
  | 2, _ => tyX3_ok
  | 3, _ => tyX4_ok
  | 4, _ => tyX5_ok
  | 5, _ => tyX6_ok
  | 6, _ => tyX7_ok
  | 7, _ => tyX9_ok
  | 8, _ => tyX10_ok
  | n + 9, h => absurd h (by omega)
theorem px_cl_nm : ∀ c, c < 9 → ∀ a, a < px_N c → ∀ b, b < px_N c → a ≠ b → (px_T c a).2.1 ≠ (px_T c b).2.1
  | 0, _ => nmX0
  | 1, _ => nmX2
  | 2, _ => nmX3
  | 3, _ => nmX4
  | 4, _ => nmX5
  | 5, _ => nmX6
  | 6, _ => nmX7
  | 7, _ => nmX9
  | 8, _ => nmX10
  | n + 9, h => absurd h (by omega)
variable {p : Program} {l : Launch} {e : Env} {R : Room} {s : State} {m : MethodId} {args : Array Value} {below : List Frame} {meth : Method} {c : Code} {H : Heap} {locs : List Loc} {cells slots : Nat} {Q : State → Prop}
variable {cc : ByteArray} {B b pc len c0 S : Nat} {xs : Nat → Int32} {i : ClassFile.Instr} {ls : Array Slot} {st st' : List Value} {h h' : px_H} {cy : Nat → ClassId} {D : va_G} {ini : Bool}
/-- where a new cell lies -/
theorem px_new_at {H1 : Heap} {cs : List va_E} {q : Nat} {e9 : va_E} (hP : va_P D vwCl (px_w B b cy cs ++ [(q, e9)]) H1) (hD : va_D (fun q : Nat => B ≤ q) (px_w B b cy cs ++ [(q, e9)])) (hz : H1.size ≤ B + cs.length + 1) : q = B + cs.length := by
  have hn : (px_w B b cy cs).length = cs.length := by simp [px_w]
  have hl : (px_w B b cy cs ++ [(q, e9)])[cs.length]? = some (q, e9) := by
    rw [List.getElem?_append_right (by omega), hn, Nat.sub_self]
    rfl
  have h1 : q < H1.size := (hP _ _ hl).lt
  have h2 : B ≤ q := hD.2 _ _ hl
  rcases Nat.lt_or_ge q (B + cs.length) with h3 | h3
  · have h4 : q - B < cs.length := by omega
    have h5 : (px_w B b cy cs)[q - B]? = some (B + (q - B), px_e B b cy cs[q - B]) := px_w_get (List.getElem?_eq_getElem h4)
    have h6 : (px_w B b cy cs ++ [(q, e9)])[q - B]? = some (B + (q - B), px_e B b cy cs[q - B]) := by
      rw [List.getElem?_append_left (by omega)]
      exact h5
    have h7 := hD.1 _ _ _ _ h6 hl (by dsimp only; omega)
    omega
  · omega
/-- the heap's size, out of the frame -/
theorem W.size9 {g : JFrame} (k : H.size ≤ s.heap.size + cells → W p l e R s m args below meth c H locs cells slots Q g) : W p l e R s m args below meth c H locs cells slots Q g := by
  intro T hT X
  exact k (by rw [← hT]; exact X.same.2.2.1) T hT X
theorem px_setR {cs : List va_E} {a : Nat} {e9 : va_E} {H1 : Heap} (h : va_P D vwCl ((px_w B b cy cs).set a (B + a, px_e B b cy e9)) H1) : va_P D vwCl (px_w B b cy (cs.set a e9)) H1 := by
  rw [px_w_set] at h
  exact h
theorem px_qup (B : Nat) (f : Nat → Option Nat) (k v : Nat) : (fun j => (va_up f k (some v) j).map (fun a => B + a)) = va_up (fun j => (f j).map (fun a => B + a)) k (some (B + v)) := by
  funext j
  unfold va_up
  split <;> rfl
set_option maxHeartbeats 8000000 in
theorem px_whp (hx : p.tables.exec = Jvm.exec) (hb : c.code = cc) (hd : decode cc pc = .ok (i, len)) (hl : px_lenOk i len = true) (hown : s.vm.findClass (pt_own c0) = some m.cls) (hts : ∀ w ∈ wsL_law, w.before args s = true)
    (hK : va_K D vwCl (px_tys cy) s) (hAO : ∀ C ∈ [RX2, RX7, RX5], va_AO C s) (hX : va_X b S xs s s.heap) (hbB : b < B) (hBs : B ≤ s.heap.size) (hS : va_S (fun q : Nat => B ≤ q) s.heap H locs) (hini : ini = true → meth.name = "<init>") (hsize : ls.size = c.maxLocals)
    (hR : px_HR B b cy D h H) (hfr : h.2.2.2 = true → s.heap.size + cells ≤ B + h.1.length)
    (hF : (pt_F c0).all (px_okF c0) = true) (hN : (pt_N c0).all (px_okN c0) = true) (hKc : (pt_K c0).all (px_okK c0) = true) (hM : (pt_M c0).all (px_okM c0) = true)
    (hrk : ∀ x, (i = .invokespecial x → ∀ v, (pt_M c0).lookup x = some (5, v) → 1 ≤ R.frames ∧ 20 ≤ R.locals) ∧ (i = .invokestatic x → ∀ v, (pt_M c0).lookup x = some (6, v) → 1 ≤ R.frames ∧ 8 + (nativeFrameWords "java/lang/System" "arraycopy" 5 + 11) ≤ R.locals))
    (hh : px_hp c0 ini S xs i st h = some (st', h')) (hcl : cells + px_cnt h' ≤ R.cells + px_cnt h) (hsl : slots + h'.2.2.1 ≤ R.slots + h.2.2.1)
    (k : ∀ (H1 : Heap) (locs1 : List Loc) (cells1 slots1 : Nat), px_HR B b cy D h' H1 → va_S (fun q : Nat => B ≤ q) s.heap H1 locs1 → cells1 + px_cnt h = cells + px_cnt h' → slots1 + h.2.2.1 = slots + h'.2.2.1 → (h'.2.2.2 = true → s.heap.size + cells1 ≤ B + h'.1.length) →
      W p l e R s m args below meth c H1 locs1 cells1 slots1 Q (F0 m (pc + len) ls (st'.map (px_v B b)))) : W p l e R s m args below meth c H locs cells slots Q (F0 m pc ls (st.map (px_v B b))) := by
  have hP : va_P D vwCl (px_w B b cy h.1) H := hR
  have hD := px_wD B b cy h.1
  have hA : ∀ q, s.heap.size ≤ q → (fun q : Nat => B ≤ q) q := fun q hq => Nat.le_trans hBs hq
  have hbA : ¬ (fun q : Nat => B ≤ q) b := Nat.not_le.mpr hbB
  have hbl : b < s.heap.size := Nat.lt_of_lt_of_le hbB hBs
  have l3 : ∀ {n : Nat}, px_len i = n → (∀ d lo hi o, i ≠ .tableswitch d lo hi o) → len = n := by
    intro n hn ht
    unfold px_lenOk at hl
    split at hl
    · exact absurd rfl (ht _ _ _ _)
    · rw [← hn]; exact of_decide_eq_true hl
  have kk : ∀ (H1 : Heap) (locs1 : List Loc) (cs : List va_E), h' = (cs, h.2) → cs.length = h.1.length → va_P D vwCl (px_w B b cy cs) H1 → va_S (fun q : Nat => B ≤ q) s.heap H1 locs1 → W p l e R s m args below meth c H1 locs1 cells slots Q (F0 m (pc + len) ls (st'.map (px_v B b))) := by
    intro H1 locs1 cs e1 e2 hP1 hS1
    subst e1
    exact k H1 locs1 cells slots hP1 hS1 (by simp only [px_cnt, e2]) rfl (fun z => by dsimp only; rw [e2]; exact hfr z)
  have ks : h' = h → W p l e R s m args below meth c H locs cells slots Q (F0 m (pc + len) ls (st'.map (px_v B b))) := fun e1 => kk H locs h.1 e1 rfl hP hS
  have kset : ∀ (H1 : Heap) (locs1 : List Loc) (a : Nat) (e9 : va_E), h' = (h.1.set a e9, h.2) → va_P D vwCl ((px_w B b cy h.1).set a (B + a, px_e B b cy e9)) H1 → va_S (fun q : Nat => B ≤ q) s.heap H1 locs1 → W p l e R s m args below meth c H1 locs1 cells slots Q (F0 m (pc + len) ls (st'.map (px_v B b))) :=
    fun H1 locs1 a e9 e1 hP1 hS1 => kk H1 locs1 _ e1 (List.length_set ..) (px_setR hP1) hS1
  unfold px_hp at hh
  split at hh
  · -- getfield
    rename_i x a st0
    have hl := l3 (n := 3) rfl (fun _ _ _ _ z => by cases z)
    subst hl
    split at hh
    · rename_i ci fk ps cj fs hlk hcl0
      split at hh
      · rename_i hcc
        subst hcc
        obtain ⟨v, hv, e1⟩ := Option.map_eq_some_iff.mp hh
        cases e1
        have ho := List.all_eq_true.mp hF _ (px_look hlk)
        simp only [px_okF, Bool.and_eq_true, decide_eq_true_eq] at ho
        obtain ⟨⟨h9, hkN⟩, hw⟩ := ho
        refine va_get hx hb hts (px_cl_in cj h9) hown hK hP a (px_w_get hcl0) (px_cl_at cj h9) fk hkN (hts _ (px_wd_mem hw)) (fun _ h9 => h9) (v := px_v B b v) ?_ hd (ks rfl)
        rw [List.getElem?_map, hv]
        rfl
      · cases hh
    · cases hh
  · sorry
  · sorry
  · sorry
  · sorry
  · sorry
  · sorry
  · sorry
  · sorry
  · sorry
  · sorry
  · sorry
  · sorry
  · sorry
  · sorry
  · sorry
  · sorry
  · sorry
  · sorry
  · sorry
  · sorry
  · sorry
  · cases hh
end PXB

/-! RULES FOR CONSTRUCTORS: a heap that grows -/
section PXN
variable {S : Nat} {xs : Nat → Int32} {k pc g s n : Nat} {L : px_L} {st : List Value} {y : (Option Value ⊕ String) × px_H} {r : px_R} {cs l l1 : List va_E} {s1 : Nat}
theorem ev_nw {x ci : Nat} {w : Nat × Nat × Nat} (hg : cs.length = g) (n : Nat) (hn : l.length = n) (pc' : Nat) (hk : pt_mt[k]? = some r) (ha : px_at (px_co r) pc = some (.new x, 3)) (hl : (pt_N (px_cl r)).lookup x = some (ci, w)) (ht : px_th (px_cl r) (px_co r) pc st = none) (h1 : l ++ [.inr (ci, px_new ci)] = l1) (hs : s + px_N ci = s1) (hp : pc + 3 = pc') (e : Ev S xs k pc' L (.ref (g + n) :: st) (cs ++ l1, 0, s1, true) y) : Ev S xs k pc L st (cs ++ l, 0, s, true) y := by
  subst h1 hs
  have hlen : (cs ++ l).length = g + n := by rw [List.length_append, hg, hn]
  refine ev_hp hk (.new x) 3 ha rfl rfl rfl rfl rfl ht ?_ hp e
  simp only [px_hp, hl, hlen, if_true, List.append_assoc]
theorem ev_nI (hg : cs.length = g) (x : Int32) (a : Nat) (hx : ¬ x < 0 ∧ x.toNatClampNeg = a ∧ a ≤ 100000) (hn : l.length = n) (pc' : Nat) (hk : pt_mt[k]? = some r) (ha : px_at (px_co r) pc = some (.newarray .int, 2)) (h1 : l ++ [.inl (0, a, .inl (fun _ => 0))] = l1) (hs : s + a = s1) (hp : pc + 2 = pc') (e : Ev S xs k pc' L (.ref (g + n) :: st) (cs ++ l1, 0, s1, true) y) : Ev S xs k pc L (.int x :: st) (cs ++ l, 0, s, true) y := by
  obtain ⟨x1, rfl, x3⟩ := hx
  subst h1 hs
  have hlen : (cs ++ l).length = g + n := by rw [List.length_append, hg, hn]
  refine ev_hp hk (.newarray .int) 2 ha rfl rfl rfl rfl rfl ?_ ?_ hp e
  · simp only [px_th, ha]
  · simp only [px_hp, hlen, List.append_assoc]
    rw [if_pos ⟨trivial, x1, x3⟩]
theorem ev_nB (hg : cs.length = g) (x : Int32) (a : Nat) (hx : ¬ x < 0 ∧ x.toNatClampNeg = a ∧ a ≤ 100000) (hn : l.length = n) (pc' : Nat) (hk : pt_mt[k]? = some r) (ha : px_at (px_co r) pc = some (.newarray .byte, 2)) (h1 : l ++ [.inl (1, a, .inl (fun _ => 0))] = l1) (hs : s + a = s1) (hp : pc + 2 = pc') (e : Ev S xs k pc' L (.ref (g + n) :: st) (cs ++ l1, 0, s1, true) y) : Ev S xs k pc L (.int x :: st) (cs ++ l, 0, s, true) y := by
  obtain ⟨x1, rfl, x3⟩ := hx
  subst h1 hs
  have hlen : (cs ++ l).length = g + n := by rw [List.length_append, hg, hn]
  refine ev_hp hk (.newarray .byte) 2 ha rfl rfl rfl rfl rfl ?_ ?_ hp e
  · simp only [px_th, ha]
  · simp only [px_hp, hlen, List.append_assoc]
    rw [if_pos ⟨trivial, x1, x3⟩]
theorem ev_nL (hg : cs.length = g) (x : Int32) (a : Nat) (hx : ¬ x < 0 ∧ x.toNatClampNeg = a ∧ a ≤ 100000) (hn : l.length = n) (pc' : Nat) (hk : pt_mt[k]? = some r) (ha : px_at (px_co r) pc = some (.newarray .long, 2)) (h1 : l ++ [.inl (5, a, .inr (.inl (fun _ => 0)))] = l1) (hs : s + a = s1) (hp : pc + 2 = pc') (e : Ev S xs k pc' L (.ref (g + n) :: st) (cs ++ l1, 0, s1, true) y) : Ev S xs k pc L (.int x :: st) (cs ++ l, 0, s, true) y := by
  obtain ⟨x1, rfl, x3⟩ := hx
  subst h1 hs
  have hlen : (cs ++ l).length = g + n := by rw [List.length_append, hg, hn]
  refine ev_hp hk (.newarray .long) 2 ha rfl rfl rfl rfl rfl ?_ ?_ hp e
  · simp only [px_th, ha]
  · simp only [px_hp, hlen, List.append_assoc]
    rw [if_pos ⟨trivial, x1, x3⟩]
theorem ev_nD (hg : cs.length = g) (x : Int32) (a : Nat) (hx : ¬ x < 0 ∧ x.toNatClampNeg = a ∧ a ≤ 100000) (hn : l.length = n) (pc' : Nat) (hk : pt_mt[k]? = some r) (ha : px_at (px_co r) pc = some (.newarray .double, 2)) (h1 : l ++ [.inl (6, a, .inr (.inr (.inr (.inl (fun _ => 0)))))] = l1) (hs : s + a = s1) (hp : pc + 2 = pc') (e : Ev S xs k pc' L (.ref (g + n) :: st) (cs ++ l1, 0, s1, false) y) : Ev S xs k pc L (.int x :: st) (cs ++ l, 0, s, true) y := by
  obtain ⟨x1, rfl, x3⟩ := hx
  subst h1 hs
  have hlen : (cs ++ l).length = g + n := by rw [List.length_append, hg, hn]
  refine ev_hp hk (.newarray .double) 2 ha rfl rfl rfl rfl rfl ?_ ?_ hp e
  · simp only [px_th, ha]
  · simp only [px_hp, hlen, List.append_assoc]
    rw [if_pos ⟨trivial, x1, x3⟩]
theorem ev_nA {x ci : Nat} {w : Nat × Nat × Nat} (hg : cs.length = g) (t : Nat) (z : Int32) (a : Nat) (hx : ¬ z < 0 ∧ z.toNatClampNeg = a ∧ a ≤ 100000) (hn : l.length = n) (pc' : Nat) (hk : pt_mt[k]? = some r) (ha : px_at (px_co r) pc = some (.anewarray x, 3)) (hl : (pt_N (px_cl r)).lookup x = some (ci, w)) (hc : ci = 1 ∧ t = 2 ∨ ci = 6 ∧ t = 3 ∨ ci = 4 ∧ t = 4) (h1 : l ++ [.inl (t, a, .inr (.inr (.inr (.inr (fun _ => none)))))] = l1) (hs : s + a = s1) (hp : pc + 3 = pc') (e : Ev S xs k pc' L (.ref (g + n) :: st) (cs ++ l1, 0, s1, true) y) : Ev S xs k pc L (.int z :: st) (cs ++ l, 0, s, true) y := by
  obtain ⟨x1, rfl, x3⟩ := hx
  subst h1 hs
  have hlen : (cs ++ l).length = g + n := by rw [List.length_append, hg, hn]
  refine ev_hp hk (.anewarray x) 3 ha rfl rfl rfl rfl rfl ?_ ?_ hp e
  · simp only [px_th, ha]
  · rcases hc with ⟨rfl, rfl⟩ | ⟨rfl, rfl⟩ | ⟨rfl, rfl⟩ <;>
    · simp only [px_hp, hl, hlen, List.append_assoc]
      rw [if_pos ⟨trivial, x1, x3⟩]
theorem at_app {a : Nat} {v : va_E} (hg : cs.length = g) (hc : l[a]? = some v) : (cs ++ l)[g + a]? = some v := by
  rw [List.getElem?_append_right (by omega), show g + a - cs.length = a by omega]; exact hc
theorem set_app {a : Nat} {v : va_E} (hg : cs.length = g) : (cs ++ l).set (g + a) v = cs ++ l.set a v := by
  rw [List.set_append_right _ _ (by omega), show g + a - cs.length = a by omega]
theorem ev_pfc {x a ci kf w : Nat} {fs : List Value} {v : Value} (hg : cs.length = g) (pc' : Nat) (hk : pt_mt[k]? = some r) (ha : px_at (px_co r) pc = some (.putfield x, 3)) (hl : (pt_F (px_cl r)).lookup x = some (ci, kf, w)) (hc : l[a]? = some (.inr (ci, fs))) (hn : Nat.blt kf fs.length = true) (hf : px_fit (px_ty ci kf) v = true) (hT : (px_T ci kf).2.2.2 = false ∨ ((px_y r).name = "<init>" ∧ (px_T ci kf).1 = pt_own (px_cl r))) (hs : l.set a (.inr (ci, fs.set kf v)) = l1) (hp : pc + 3 = pc') (e : Ev S xs k pc' L st (cs ++ l1, 0, s, true) y) : Ev S xs k pc L (v :: .ref (g + a) :: st) (cs ++ l, 0, s, true) y := by
  subst hs
  refine ev_hp hk (.putfield x) 3 ha rfl rfl rfl rfl rfl ?_ ?_ hp e
  · simp only [px_th, ha]
  · simp only [px_hp, hl, at_app hg hc]
    rw [if_pos ⟨trivial, Nat.le_of_ble_eq_true hn, hf, hT.imp id (fun z => ⟨decide_eq_true z.1, z.2⟩)⟩, set_app hg]
theorem ev_gfc {x a ci kf w : Nat} {fs : List Value} (hg : cs.length = g) (v : Value) (pc' : Nat) (hk : pt_mt[k]? = some r) (ha : px_at (px_co r) pc = some (.getfield x, 3)) (hl : (pt_F (px_cl r)).lookup x = some (ci, kf, w)) (hc : l[a]? = some (.inr (ci, fs))) (hv : fs[kf]? = some v) (hp : pc + 3 = pc') (e : Ev S xs k pc' L (v :: st) (cs ++ l, 0, s, true) y) : Ev S xs k pc L (.ref (g + a) :: st) (cs ++ l, 0, s, true) y :=
  ev_gf v pc' hk ha hl (at_app hg hc) hv hp e
theorem ev_aas {p a b t m cv : Nat} {z : Int32} {f : Nat → Option Nat} {fs : List Value} (hg : cs.length = g) (hi : px_in z m = true ∧ z.toNatClampNeg = p ∧ (2 ≤ t ∧ t ≤ 4) ∧ cv = px_qc t) (pc' : Nat) (hk : pt_mt[k]? = some r) (ha : px_at (px_co r) pc = some (.aastore, 1)) (hc : l[a]? = some (.inl (t, m, .inr (.inr (.inr (.inr f)))))) (hv : l[b]? = some (.inr (cv, fs))) (hs : l.set a (.inl (t, m, .inr (.inr (.inr (.inr (va_up f p (some (g + b)))))))) = l1) (hp : pc + 1 = pc') (e : Ev S xs k pc' L st (cs ++ l1, 0, s, true) y) : Ev S xs k pc L (.ref (g + b) :: .int z :: .ref (g + a) :: st) (cs ++ l, 0, s, true) y := by
  subst hs
  obtain ⟨i1, rfl, ⟨i3, i4⟩, i5⟩ := hi
  refine ev_hp hk .aastore 1 ha rfl rfl rfl rfl rfl ?_ ?_ hp e
  · simp only [px_th, ha]
  · simp only [px_hp, at_app hg hc, at_app hg hv]
    rw [if_pos ⟨i1, i3, i4, i5⟩, set_app hg]
theorem ev_obj {x a j m : Nat} {ws : List Nat} {h : px_H} (pc' : Nat) (hk : pt_mt[k]? = some r) (ha : px_at (px_co r) pc = some (.invokespecial x, 3)) (hm : (pt_M (px_cl r)).lookup x = some (5, j, m, ws)) (hs : Nat.ble ((st.map fun v => v.category).sum) 8 = true) (hp : pc + 3 = pc') (e : Ev S xs k pc' L st h y) : Ev S xs k pc L (.ref a :: st) h y := by
  refine ev_hp hk (.invokespecial x) 3 ha rfl rfl rfl rfl ?_ ?_ ?_ hp e
  · simp only [px_ca, hm]
    split
    · rw [if_neg (fun z => absurd z.1 (by decide))]
    · rfl
  · simp only [px_th, ha]
  · simp only [px_hp, hm]
    rw [if_pos (Nat.le_of_ble_eq_true hs)]
theorem ev_ci {x kd j b : Nat} {ws : List Nat} {rj : px_R} {h h0 h1 h2 : px_H} {L0 : px_L} (pc' : Nat) (hk : pt_mt[k]? = some r) (ha : px_at (px_co r) pc = some (.invokespecial x, 3)) (hm : (pt_M (px_cl r)).lookup x = some (kd, j, 0, ws)) (hkd : kd = 2 ∨ kd = 4) (hj : pt_mt[j]? = some rj) (hs : Nat.ble ((st.map fun v => v.category).sum) 8 = true) (e1 : Ev S xs j 0 L0 [] h0 (.inl none, h2)) (hh0 : h0 = h) (hh1 : h2 = h1) (hL : px_in0 (px_mx rj) [.ref b] = L0) (hl : L0.length = px_mx rj) (hp : pc + 3 = pc') (e : Ev S xs k pc' L st h1 y) : Ev S xs k pc L (.ref b :: st) h y := by
  subst hL hh0 hh1
  refine ev_call hk (.invokespecial x) 3 ha rfl rfl rfl rfl (?_ : px_ca (px_cl r) (.invokespecial x) (.ref b :: st) h0 = some (kd, j, [.ref b], st)) hj hl e1 hp e
  simp only [px_ca, hm, List.drop_zero, List.take_zero, List.reverse_nil]
  rw [if_pos ⟨hkd, Nat.zero_le _, Nat.le_of_ble_eq_true hs⟩]
theorem rc_spot {a : Nat} {h : px_H} : Ev S xs 296 0 [some (.ref a)] [] h (.inl none, h) := by
  have hk : pt_mt[296]? = some pt_r296 := rfl
  refine ev_ls (L' := [some (.ref a)]) (st' := [.ref a]) (pc' := 1) hk (.aload_n 0) 1 rfl rfl rfl rfl ?_
  refine ev_obj 4 hk rfl rfl rfl rfl ?_
  exact ev_retv hk rfl rfl
theorem rc_label {a : Nat} {h : px_H} : Ev S xs 282 0 [some (.ref a)] [] h (.inl none, h) := by
  have hk : pt_mt[282]? = some pt_r282 := rfl
  refine ev_ls (L' := [some (.ref a)]) (st' := [.ref a]) (pc' := 1) hk (.aload_n 0) 1 rfl rfl rfl rfl ?_
  refine ev_obj 4 hk rfl rfl rfl rfl ?_
  exact ev_retv hk rfl rfl
end PXN

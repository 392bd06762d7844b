/-! the rules by instruction -/
section PXW
variable {S : Nat} {xs : Nat → Int32}
variable {k pc pc' pct : Nat} {r : px_R} {L : px_L} {st : List Value} {h : px_H} {y : (Option Value ⊕ String) × px_H}
def b2i : Bool → Int32
  | true => 1
  | false => 0
theorem b2i_or (b : Bool) : b2i b = 0 ∨ b2i b = 1 := by cases b <;> decide
theorem fit_b (b : Bool) : px_fit .boolean (.int (b2i b)) = true := by cases b <;> decide
/-- 'not the first half of a long' -/
def px_cz (u : Option Value) : Bool := match u with
  | some v => decide (v.category = 1)
  | none => true
theorem ev_retv (hk : pt_mt[k]? = some r) (ha : px_at (px_co r) pc = some (.return_, 1)) (hr : px_rt r = none) : Ev S xs k pc L [] h (.inl none, h) :=
  ev_ret hk .return_ 1 ha rfl rfl rfl (by rw [hr]; rfl)
theorem ev_retI {x : Int32} (hk : pt_mt[k]? = some r) (ha : px_at (px_co r) pc = some (.ireturn, 1)) (hr : px_rt r = some .int) : Ev S xs k pc L [.int x] h (.inl (some (.int x)), h) :=
  ev_ret hk .ireturn 1 ha rfl rfl rfl (by rw [hr]; rfl)
theorem ev_retZ {x : Int32} (b : Bool) (hb : b2i b = x) (hk : pt_mt[k]? = some r) (ha : px_at (px_co r) pc = some (.ireturn, 1)) (hr : px_rt r = some .boolean) : Ev S xs k pc L [.int x] h (.inl (some (.int x)), h) :=
  ev_ret hk .ireturn 1 ha rfl rfl rfl (by rw [hr, ← hb]; exact if_pos (b2i_or b))
theorem ev_retC {x : Int32} (hb : x.toUInt32.toUInt16.toUInt32.toInt32 = x) (hk : pt_mt[k]? = some r) (ha : px_at (px_co r) pc = some (.ireturn, 1)) (hr : px_rt r = some .char) : Ev S xs k pc L [.int x] h (.inl (some (.int x)), h) :=
  ev_ret hk .ireturn 1 ha rfl rfl rfl (by rw [hr]; exact if_pos hb)
theorem ev_retL {x : Int64} (hk : pt_mt[k]? = some r) (ha : px_at (px_co r) pc = some (.lreturn, 1)) (hr : px_rt r = some .long) : Ev S xs k pc L [.long x] h (.inl (some (.long x)), h) :=
  ev_ret hk .lreturn 1 ha rfl rfl rfl (by rw [hr]; rfl)
theorem ev_retF {x : UInt32} (hk : pt_mt[k]? = some r) (ha : px_at (px_co r) pc = some (.freturn, 1)) (hr : px_rt r = some .float) : Ev S xs k pc L [.float x] h (.inl (some (.float x)), h) :=
  ev_ret hk .freturn 1 ha rfl rfl rfl (by rw [hr]; rfl)
theorem ev_retD {x : UInt64} (hk : pt_mt[k]? = some r) (ha : px_at (px_co r) pc = some (.dreturn, 1)) (hr : px_rt r = some .double) : Ev S xs k pc L [.double x] h (.inl (some (.double x)), h) :=
  ev_ret hk .dreturn 1 ha rfl rfl rfl (by rw [hr]; rfl)
/-- conditions -/
theorem ev_c1 {x : Int32} {c : ClassFile.Cond} {o : Int} (hk : pt_mt[k]? = some r) (ha : px_at (px_co r) pc = some (.ifCond c o, 3)) (hq : px_jq (.ifCond c o) pc = true) (ht : ((pc : Int) + o).toNat = pct) (hp : pc + 3 = pc')
    (e1 : px_cond c x 0 = true → Ev S xs k pct L st h y) (e2 : px_cond c x 0 = false → Ev S xs k pc' L st h y) : Ev S xs k pc L (.int x :: st) h y := by
  subst ht hp
  cases hc : px_cond c x 0 with
  | true => exact ev_jp hk (.ifCond c o) 3 ha rfl rfl (by simp only [px_jp, hc, if_true]) hq (e1 hc)
  | false => exact ev_jp hk (.ifCond c o) 3 ha rfl rfl (by simp only [px_jp, hc]; rfl) hq (e2 hc)
theorem ev_c2 {x x' : Int32} {c : ClassFile.Cond} {o : Int} (hk : pt_mt[k]? = some r) (ha : px_at (px_co r) pc = some (.if_icmp c o, 3)) (hq : px_jq (.if_icmp c o) pc = true) (ht : ((pc : Int) + o).toNat = pct) (hp : pc + 3 = pc')
    (e1 : px_cond c x x' = true → Ev S xs k pct L st h y) (e2 : px_cond c x x' = false → Ev S xs k pc' L st h y) : Ev S xs k pc L (.int x' :: .int x :: st) h y := by
  subst ht hp
  cases hc : px_cond c x x' with
  | true => exact ev_jp hk (.if_icmp c o) 3 ha rfl rfl (by simp only [px_jp, hc, if_true]) hq (e1 hc)
  | false => exact ev_jp hk (.if_icmp c o) 3 ha rfl rfl (by simp only [px_jp, hc]; rfl) hq (e2 hc)
theorem px_ceq {α : Type} {A B X : α} {x x' : Int32} {P Q : Prop} (hx : (if x = x' then A else B) = X) (e1 : x = x' → A = X → P) (e2 : x ≠ x' → B = X → Q) : (px_cond .eq x x' = true → P) ∧ (px_cond .eq x x' = false → Q) := by
  by_cases hc : x = x'
  · rw [if_pos hc] at hx; exact ⟨fun _ => e1 hc hx, fun z => absurd hc (of_decide_eq_false z)⟩
  · rw [if_neg hc] at hx; exact ⟨fun z => absurd (of_decide_eq_true z) hc, fun _ => e2 hc hx⟩
theorem px_cne {α : Type} {A B X : α} {x x' : Int32} {P Q : Prop} (hx : (if x = x' then B else A) = X) (e1 : x ≠ x' → A = X → P) (e2 : x = x' → B = X → Q) : (px_cond .ne x x' = true → P) ∧ (px_cond .ne x x' = false → Q) := by
  by_cases hc : x = x'
  · rw [if_pos hc] at hx; exact ⟨fun z => absurd hc (of_decide_eq_true z), fun _ => e2 hc hx⟩
  · rw [if_neg hc] at hx; exact ⟨fun _ => e1 hc hx, fun z => absurd hc (fun w => of_decide_eq_false z w)⟩
theorem px_clt {α : Type} {A B X : α} {x x' : Int32} {P Q : Prop} (hx : (if x < x' then A else B) = X) (e1 : x < x' → A = X → P) (e2 : ¬ x < x' → B = X → Q) : (px_cond .lt x x' = true → P) ∧ (px_cond .lt x x' = false → Q) := by
  by_cases hc : x < x'
  · rw [if_pos hc] at hx; exact ⟨fun _ => e1 hc hx, fun z => absurd hc (of_decide_eq_false z)⟩
  · rw [if_neg hc] at hx; exact ⟨fun z => absurd (of_decide_eq_true z) hc, fun _ => e2 hc hx⟩
theorem px_cge {α : Type} {A B X : α} {x x' : Int32} {P Q : Prop} (hx : (if x < x' then B else A) = X) (e1 : ¬ x < x' → A = X → P) (e2 : x < x' → B = X → Q) : (px_cond .ge x x' = true → P) ∧ (px_cond .ge x x' = false → Q) := by
  by_cases hc : x < x'
  · rw [if_pos hc] at hx; exact ⟨fun z => absurd hc (Int32.not_lt.mpr (of_decide_eq_true z)), fun _ => e2 hc hx⟩
  · rw [if_neg hc] at hx; exact ⟨fun _ => e1 hc hx, fun z => absurd (Int32.not_lt.mp hc) (of_decide_eq_false z)⟩
theorem px_cgt {α : Type} {A B X : α} {x x' : Int32} {P Q : Prop} (hx : (if x' < x then A else B) = X) (e1 : x' < x → A = X → P) (e2 : ¬ x' < x → B = X → Q) : (px_cond .gt x x' = true → P) ∧ (px_cond .gt x x' = false → Q) := by
  by_cases hc : x' < x
  · rw [if_pos hc] at hx; exact ⟨fun _ => e1 hc hx, fun z => absurd hc (of_decide_eq_false z)⟩
  · rw [if_neg hc] at hx; exact ⟨fun z => absurd (of_decide_eq_true z) hc, fun _ => e2 hc hx⟩
theorem px_cle {α : Type} {A B X : α} {x x' : Int32} {P Q : Prop} (hx : (if x' < x then B else A) = X) (e1 : ¬ x' < x → A = X → P) (e2 : x' < x → B = X → Q) : (px_cond .le x x' = true → P) ∧ (px_cond .le x x' = false → Q) := by
  by_cases hc : x' < x
  · rw [if_pos hc] at hx; exact ⟨fun z => absurd hc (Int32.not_lt.mpr (of_decide_eq_true z)), fun _ => e2 hc hx⟩
  · rw [if_neg hc] at hx; exact ⟨fun _ => e1 hc hx, fun z => absurd (Int32.not_lt.mp hc) (of_decide_eq_false z)⟩
theorem px_bne {α : Type} {A B X : α} {b : Bool} {P Q : Prop} (hx : (if b = true then A else B) = X) (e1 : b = true → A = X → P) (e2 : b = false → B = X → Q) : (px_cond .ne (b2i b) 0 = true → P) ∧ (px_cond .ne (b2i b) 0 = false → Q) := by
  cases b with
  | true => exact ⟨fun _ => e1 rfl hx, fun z => absurd z (by decide)⟩
  | false => exact ⟨fun z => absurd z (by decide), fun _ => e2 rfl hx⟩
theorem px_beq {α : Type} {A B X : α} {b : Bool} {P Q : Prop} (hx : (if b = true then B else A) = X) (e1 : b = false → A = X → P) (e2 : b = true → B = X → Q) : (px_cond .eq (b2i b) 0 = true → P) ∧ (px_cond .eq (b2i b) 0 = false → Q) := by
  cases b with
  | true => exact ⟨fun z => absurd z (by decide), fun _ => e2 rfl hx⟩
  | false => exact ⟨fun _ => e1 rfl hx, fun z => absurd z (by decide)⟩
theorem lc_tri (x x' : Int64) : (x < x' ∧ lg_cmp x x' = -1) ∨ (x = x' ∧ lg_cmp x x' = 0) ∨ (x' < x ∧ lg_cmp x x' = 1) := by
  unfold lg_cmp
  by_cases h1 : x > x'
  · exact Or.inr (Or.inr ⟨h1, if_pos h1⟩)
  · rw [if_neg h1]
    by_cases h2 : x = x'
    · exact Or.inr (Or.inl ⟨h2, if_pos h2⟩)
    · rw [if_neg h2]
      refine Or.inl ⟨?_, rfl⟩
      exact Int64.lt_of_le_of_ne (Int64.not_lt.mp h1) h2
theorem px_leq {α : Type} {A B X : α} {x x' : Int64} {P Q : Prop} (hx : (if x = x' then A else B) = X) (e1 : x = x' → A = X → P) (e2 : x ≠ x' → B = X → Q) : (px_cond .eq (lg_cmp x x') 0 = true → P) ∧ (px_cond .eq (lg_cmp x x') 0 = false → Q) := by
  rcases lc_tri x x' with ⟨h, e⟩ | ⟨h, e⟩ | ⟨h, e⟩
  · have hn : x ≠ x' := Int64.ne_of_lt h
    rw [e]; rw [if_neg hn] at hx; exact ⟨fun z => absurd z (by decide), fun _ => e2 hn hx⟩
  · rw [e]; rw [if_pos h] at hx; exact ⟨fun _ => e1 h hx, fun z => absurd z (by decide)⟩
  · have hn : x ≠ x' := fun z => Int64.ne_of_lt h z.symm
    rw [e]; rw [if_neg hn] at hx; exact ⟨fun z => absurd z (by decide), fun _ => e2 hn hx⟩
theorem px_lne {α : Type} {A B X : α} {x x' : Int64} {P Q : Prop} (hx : (if x = x' then B else A) = X) (e1 : x ≠ x' → A = X → P) (e2 : x = x' → B = X → Q) : (px_cond .ne (lg_cmp x x') 0 = true → P) ∧ (px_cond .ne (lg_cmp x x') 0 = false → Q) := by
  rcases lc_tri x x' with ⟨h, e⟩ | ⟨h, e⟩ | ⟨h, e⟩
  · have hn : x ≠ x' := Int64.ne_of_lt h
    rw [e]; rw [if_neg hn] at hx; exact ⟨fun _ => e1 hn hx, fun z => absurd z (by decide)⟩
  · rw [e]; rw [if_pos h] at hx; exact ⟨fun z => absurd z (by decide), fun _ => e2 h hx⟩
  · have hn : x ≠ x' := fun z => Int64.ne_of_lt h z.symm
    rw [e]; rw [if_neg hn] at hx; exact ⟨fun _ => e1 hn hx, fun z => absurd z (by decide)⟩
theorem px_llt {α : Type} {A B X : α} {x x' : Int64} {P Q : Prop} (hx : (if x < x' then A else B) = X) (e1 : x < x' → A = X → P) (e2 : ¬ x < x' → B = X → Q) : (px_cond .lt (lg_cmp x x') 0 = true → P) ∧ (px_cond .lt (lg_cmp x x') 0 = false → Q) := by
  rcases lc_tri x x' with ⟨h, e⟩ | ⟨h, e⟩ | ⟨h, e⟩
  · rw [e]; rw [if_pos h] at hx; exact ⟨fun _ => e1 h hx, fun z => absurd z (by decide)⟩
  · have hn : ¬ x < x' := by rw [h]; exact Int64.lt_irrefl
    rw [e]; rw [if_neg hn] at hx; exact ⟨fun z => absurd z (by decide), fun _ => e2 hn hx⟩
  · have hn : ¬ x < x' := Int64.lt_asymm h
    rw [e]; rw [if_neg hn] at hx; exact ⟨fun z => absurd z (by decide), fun _ => e2 hn hx⟩
theorem px_lge {α : Type} {A B X : α} {x x' : Int64} {P Q : Prop} (hx : (if x < x' then B else A) = X) (e1 : ¬ x < x' → A = X → P) (e2 : x < x' → B = X → Q) : (px_cond .ge (lg_cmp x x') 0 = true → P) ∧ (px_cond .ge (lg_cmp x x') 0 = false → Q) := by
  rcases lc_tri x x' with ⟨h, e⟩ | ⟨h, e⟩ | ⟨h, e⟩
  · rw [e]; rw [if_pos h] at hx; exact ⟨fun z => absurd z (by decide), fun _ => e2 h hx⟩
  · have hn : ¬ x < x' := by rw [h]; exact Int64.lt_irrefl
    rw [e]; rw [if_neg hn] at hx; exact ⟨fun _ => e1 hn hx, fun z => absurd z (by decide)⟩
  · have hn : ¬ x < x' := Int64.lt_asymm h
    rw [e]; rw [if_neg hn] at hx; exact ⟨fun _ => e1 hn hx, fun z => absurd z (by decide)⟩
theorem px_lgt {α : Type} {A B X : α} {x x' : Int64} {P Q : Prop} (hx : (if x' < x then A else B) = X) (e1 : x' < x → A = X → P) (e2 : ¬ x' < x → B = X → Q) : (px_cond .gt (lg_cmp x x') 0 = true → P) ∧ (px_cond .gt (lg_cmp x x') 0 = false → Q) := by
  rcases lc_tri x x' with ⟨h, e⟩ | ⟨h, e⟩ | ⟨h, e⟩
  · have hn : ¬ x' < x := Int64.lt_asymm h
    rw [e]; rw [if_neg hn] at hx; exact ⟨fun z => absurd z (by decide), fun _ => e2 hn hx⟩
  · have hn : ¬ x' < x := by rw [h]; exact Int64.lt_irrefl
    rw [e]; rw [if_neg hn] at hx; exact ⟨fun z => absurd z (by decide), fun _ => e2 hn hx⟩
  · rw [e]; rw [if_pos h] at hx; exact ⟨fun _ => e1 h hx, fun z => absurd z (by decide)⟩
theorem px_lle {α : Type} {A B X : α} {x x' : Int64} {P Q : Prop} (hx : (if x' < x then B else A) = X) (e1 : ¬ x' < x → A = X → P) (e2 : x' < x → B = X → Q) : (px_cond .le (lg_cmp x x') 0 = true → P) ∧ (px_cond .le (lg_cmp x x') 0 = false → Q) := by
  rcases lc_tri x x' with ⟨h, e⟩ | ⟨h, e⟩ | ⟨h, e⟩
  · have hn : ¬ x' < x := Int64.lt_asymm h
    rw [e]; rw [if_neg hn] at hx; exact ⟨fun _ => e1 hn hx, fun z => absurd z (by decide)⟩
  · have hn : ¬ x' < x := by rw [h]; exact Int64.lt_irrefl
    rw [e]; rw [if_neg hn] at hx; exact ⟨fun _ => e1 hn hx, fun z => absurd z (by decide)⟩
  · rw [e]; rw [if_pos h] at hx; exact ⟨fun z => absurd z (by decide), fun _ => e2 h hx⟩
theorem ev_d1 {x : Int32} {c : ClassFile.Cond} {o : Int} (pct pc' : Nat) (hk : pt_mt[k]? = some r) (ha : px_at (px_co r) pc = some (.ifCond c o, 3)) (hq : px_jq (.ifCond c o) pc = true) (ht : ((pc : Int) + o).toNat = pct) (hp : pc + 3 = pc')
    (e : (px_cond c x 0 = true → Ev S xs k pct L st h y) ∧ (px_cond c x 0 = false → Ev S xs k pc' L st h y)) : Ev S xs k pc L (.int x :: st) h y := ev_c1 hk ha hq ht hp e.1 e.2
theorem ev_d2 {x x' : Int32} {c : ClassFile.Cond} {o : Int} (pct pc' : Nat) (hk : pt_mt[k]? = some r) (ha : px_at (px_co r) pc = some (.if_icmp c o, 3)) (hq : px_jq (.if_icmp c o) pc = true) (ht : ((pc : Int) + o).toNat = pct) (hp : pc + 3 = pc')
    (e : (px_cond c x x' = true → Ev S xs k pct L st h y) ∧ (px_cond c x x' = false → Ev S xs k pc' L st h y)) : Ev S xs k pc L (.int x' :: .int x :: st) h y := ev_c2 hk ha hq ht hp e.1 e.2
/-- a switch: one of its cases, and the rest -/
theorem ev_ts {α : Type} {A B X : α} {x : Int32} (m : Int32) (pct : Nat) {d lo hi : Int} {offs : Array Int} {len : Nat} (hk : pt_mt[k]? = some r) (ha : px_at (px_co r) pc = some (.tableswitch d lo hi offs, len)) (hj : px_jp (.tableswitch d lo hi offs) pc len (.int m :: st) = some (pct, st)) (hq : px_jq (.tableswitch d lo hi offs) pc = true)
    (hx : (if x = m then A else B) = X) (e1 : x = m → A = X → Ev S xs k pct L st h y) (e2 : x ≠ m → B = X → Ev S xs k pc L (.int x :: st) h y) : Ev S xs k pc L (.int x :: st) h y := by
  by_cases hc : x = m
  · rw [if_pos hc] at hx
    rw [hc]
    exact ev_jp hk _ len ha rfl rfl hj hq (e1 hc hx)
  · rw [if_neg hc] at hx
    exact e2 hc hx
theorem ts_out {x : Int32} {lo n : Nat} (h : ∀ m ∈ List.range (n + 1), lo ≤ m → x ≠ Int32.ofNat m) (hn : n < 1000) : x.toInt < ((lo : Nat) : Int) ∨ ((n : Nat) : Int) < x.toInt := by
  by_cases h1 : x.toInt < ((lo : Nat) : Int)
  · exact Or.inl h1
  · by_cases h2 : ((n : Nat) : Int) < x.toInt
    · exact Or.inr h2
    · exfalso
      refine h x.toInt.toNat (List.mem_range.mpr (by omega)) (by omega) ?_
      apply Int32.toInt_inj.mp
      rw [Int32.toInt_ofNat_of_lt (by omega)]
      omega
theorem ev_tsd {x : Int32} (pct : Nat) {d : Int} {lo n : Nat} {offs : Array Int} {len : Nat} (hk : pt_mt[k]? = some r) (ha : px_at (px_co r) pc = some (.tableswitch d ((lo : Nat) : Int) ((n : Nat) : Int) offs, len)) (hx : ∀ m ∈ List.range (n + 1), lo ≤ m → x ≠ Int32.ofNat m) (hn : n < 1000) (hq : px_jq (.tableswitch d ((lo : Nat) : Int) ((n : Nat) : Int) offs) pc = true) (ht : ((pc : Int) + d).toNat = pct) (e : Ev S xs k pct L st h y) : Ev S xs k pc L (.int x :: st) h y := by
  subst ht
  refine ev_jp hk _ len ha rfl rfl ?_ hq e
  show (if _ then _ else _) = _
  rw [if_pos (ts_out hx hn)]
/-- fields -/
theorem ev_gf {x a ci kf w : Nat} {fs : List Value} (v : Value) (pc' : Nat) (hk : pt_mt[k]? = some r) (ha : px_at (px_co r) pc = some (.getfield x, 3)) (hl : (pt_F (px_cl r)).lookup x = some (ci, kf, w)) (hc : h.1[a]? = some (.inr (ci, fs))) (hv : fs[kf]? = some v) (hp : pc + 3 = pc') (e : Ev S xs k pc' L (v :: st) h y) : Ev S xs k pc L (.ref a :: st) h y := by
  refine ev_hp hk (.getfield x) 3 ha rfl rfl rfl rfl rfl ?_ ?_ hp e
  · simp only [px_th, ha]
  · simp only [px_hp, hl, hc, if_true, hv, Option.map_some]
theorem ev_pf {x a ci kf w : Nat} {fs : List Value} {v : Value} {h1 : px_H} (pc' : Nat) (hk : pt_mt[k]? = some r) (ha : px_at (px_co r) pc = some (.putfield x, 3)) (hl : (pt_F (px_cl r)).lookup x = some (ci, kf, w)) (hc : h.1[a]? = some (.inr (ci, fs))) (hn : Nat.blt kf fs.length = true) (hf : px_fit (px_ty ci kf) v = true) (hT : (px_T ci kf).2.2.2 = false) (hs : (h.1.set a (.inr (ci, fs.set kf v)), h.2) = h1) (hp : pc + 3 = pc') (e : Ev S xs k pc' L st h1 y) : Ev S xs k pc L (v :: .ref a :: st) h y := by
  subst hs
  refine ev_hp hk (.putfield x) 3 ha rfl rfl rfl rfl rfl ?_ ?_ hp e
  · simp only [px_th, ha]
  · simp only [px_hp, hl, hc]
    rw [if_pos ⟨trivial, Nat.le_of_ble_eq_true hn, hf, Or.inl hT⟩]
/-- what may fail, as a choice -/
def zdiv (x y : Int32) : Option Int32 := if y = 0 then none else some (x / y)
def zrem (x y : Int32) : Option Int32 := if y = 0 then none else some (x - x / y * y)
def zddiv (x y : UInt64) : Option UInt64 := if FP.ddiv x y &&& 0x7fffffffffffffff ≤ 0x7ff0000000000000 then some (FP.ddiv x y) else none
def zfdiv (x y : UInt32) : Option UInt32 := if FP.fdiv x y &&& 0x7fffffff ≤ 0x7f800000 then some (FP.fdiv x y) else none
def zf2d (x : UInt32) : Option UInt64 := if FP.f2d x &&& 0x7fffffffffffffff ≤ 0x7ff0000000000000 then some (FP.f2d x) else none
def rd {α : Type} (n : Nat) (f : Nat → α) (i : Int32) : Option α := if px_in i n = true then some (f i.toNatClampNeg) else none
def rix (n : Nat) (i : Int32) : Option Nat := if px_in i n = true then some i.toNatClampNeg else none
theorem rd_some {α : Type} {n : Nat} {f : Nat → α} {i : Int32} {v : α} (h : rd n f i = some v) : px_in i n = true ∧ v = f i.toNatClampNeg := by
  unfold rd at h
  split at h
  · rename_i hi; cases h; exact ⟨hi, rfl⟩
  · cases h
theorem px_in_lt {i : Int32} {n : Nat} (h : px_in i n = true) : i.toNatClampNeg < n := by
  simp only [px_in, Bool.not_eq_true', Bool.or_eq_false_iff, decide_eq_false_iff_not] at h
  omega
theorem rix_some {n : Nat} {i : Int32} {v : Nat} (h : rix n i = some v) : px_in i n = true ∧ v = i.toNatClampNeg ∧ v < n := by
  unfold rix at h
  split at h
  · rename_i hi; cases h; exact ⟨hi, rfl, px_in_lt hi⟩
  · cases h
theorem zdiv_some {x y' v : Int32} (h : zdiv x y' = some v) : y' ≠ 0 ∧ v = x / y' := by
  unfold zdiv at h
  split at h
  · cases h
  · rename_i hy; cases h; exact ⟨hy, rfl⟩
theorem zrem_some {x y' v : Int32} (h : zrem x y' = some v) : y' ≠ 0 ∧ v = x - x / y' * y' := by
  unfold zrem at h
  split at h
  · cases h
  · rename_i hy; cases h; exact ⟨hy, rfl⟩
theorem rix_lt {n : Nat} {i : Int32} {v : Nat} (h : rix n i = some v) : v < n := (rix_some h).2.2
def wr (n : Nat) (f : Nat → Int32) (i v : Int32) : Option (Nat → Int32) := if px_in i n = true then some (upd f i.toNatClampNeg v) else none
def wrb (n : Nat) (f : Nat → Int32) (i v : Int32) : Option (Nat → Int32) := if px_in i n = true then some (upd f i.toNatClampNeg (vp_nar .byte v)) else none
theorem wr_some {n : Nat} {f A : Nat → Int32} {i v : Int32} (h : wr n f i v = some A) : px_in i n = true ∧ A = upd f i.toNatClampNeg v := by
  unfold wr at h
  split at h
  · rename_i hi; cases h; exact ⟨hi, rfl⟩
  · cases h
theorem wrb_some {n : Nat} {f A : Nat → Int32} {i v : Int32} (h : wrb n f i v = some A) : px_in i n = true ∧ A = upd f i.toNatClampNeg (vp_nar .byte v) := by
  unfold wrb at h
  split at h
  · rename_i hi; cases h; exact ⟨hi, rfl⟩
  · cases h
def wrl (n : Nat) (f : Nat → Int64) (i : Int32) (v : Int64) : Option (Nat → Int64) := if px_in i n = true then some (vp_updL f i.toNatClampNeg v) else none
def wrd (n : Nat) (f : Nat → UInt64) (i : Int32) (v : UInt64) : Option (Nat → UInt64) := if px_in i n = true then some (vf_upd f i.toNatClampNeg v) else none
theorem wrl_some {n : Nat} {f A : Nat → Int64} {i : Int32} {v : Int64} (h : wrl n f i v = some A) : px_in i n = true ∧ A = vp_updL f i.toNatClampNeg v := by
  unfold wrl at h
  split at h
  · rename_i hi; cases h; exact ⟨hi, rfl⟩
  · cases h
theorem wrd_some {n : Nat} {f A : Nat → UInt64} {i : Int32} {v : UInt64} (h : wrd n f i v = some A) : px_in i n = true ∧ A = vf_upd f i.toNatClampNeg v := by
  unfold wrd at h
  split at h
  · rename_i hi; cases h; exact ⟨hi, rfl⟩
  · cases h
/-- arrays -/
theorem ev_ial {x : Int32} {a n : Nat} {f : Nat → Int32} {v : Int32} (hv : rd n f x = some v) (pc' : Nat) (hk : pt_mt[k]? = some r) (ha : px_at (px_co r) pc = some (.iaload, 1)) (hc : h.1[a]? = some (.inl (0, n, .inl f))) (hp : pc + 1 = pc') (e : Ev S xs k pc' L (.int v :: st) h y) : Ev S xs k pc L (.int x :: .ref a :: st) h y := by
  obtain ⟨hi, rfl⟩ := rd_some hv
  refine ev_hp hk .iaload 1 ha rfl rfl rfl rfl rfl ?_ ?_ hp e
  · simp only [px_th, ha]
  · simp only [px_hp, hc]
    rw [if_pos hi]
theorem ev_bal {x : Int32} {a n : Nat} {f : Nat → Int32} {v : Int32} (hv : rd n f x = some v) (pc' : Nat) (hk : pt_mt[k]? = some r) (ha : px_at (px_co r) pc = some (.baload, 1)) (hc : h.1[a]? = some (.inl (1, n, .inl f))) (hp : pc + 1 = pc') (e : Ev S xs k pc' L (.int v :: st) h y) : Ev S xs k pc L (.int x :: .ref a :: st) h y := by
  obtain ⟨hi, rfl⟩ := rd_some hv
  refine ev_hp hk .baload 1 ha rfl rfl rfl rfl rfl ?_ ?_ hp e
  · simp only [px_th, ha]
  · simp only [px_hp, hc]
    rw [if_pos hi]
theorem ev_lal {x : Int32} {a n : Nat} {f : Nat → Int64} {v : Int64} (hv : rd n f x = some v) (pc' : Nat) (hk : pt_mt[k]? = some r) (ha : px_at (px_co r) pc = some (.laload, 1)) (hc : h.1[a]? = some (.inl (5, n, .inr (.inl f)))) (hp : pc + 1 = pc') (e : Ev S xs k pc' L (.long v :: st) h y) : Ev S xs k pc L (.int x :: .ref a :: st) h y := by
  obtain ⟨hi, rfl⟩ := rd_some hv
  refine ev_hp hk .laload 1 ha rfl rfl rfl rfl rfl ?_ ?_ hp e
  · simp only [px_th, ha]
  · simp only [px_hp, hc]
    rw [if_pos hi]
theorem ev_dal {x : Int32} {a n : Nat} {f : Nat → UInt64} {v : UInt64} (hv : rd n f x = some v) (pc' : Nat) (hk : pt_mt[k]? = some r) (ha : px_at (px_co r) pc = some (.daload, 1)) (hc : h.1[a]? = some (.inl (6, n, .inr (.inr (.inr (.inl f)))))) (hp : pc + 1 = pc') (e : Ev S xs k pc' L (.double v :: st) h y) : Ev S xs k pc L (.int x :: .ref a :: st) h y := by
  obtain ⟨hi, rfl⟩ := rd_some hv
  refine ev_hp hk .daload 1 ha rfl rfl rfl rfl rfl ?_ ?_ hp e
  · simp only [px_th, ha]
  · simp only [px_hp, hc]
    rw [if_pos hi]
theorem ev_sal {x v : Int32} (hv : rd S xs x = some v) (pc' : Nat) (hk : pt_mt[k]? = some r) (ha : px_at (px_co r) pc = some (.iaload, 1)) (hp : pc + 1 = pc') (e : Ev S xs k pc' L (.int v :: st) h y) : Ev S xs k pc L (.int x :: .retAddr 0 :: st) h y := by
  obtain ⟨hi, rfl⟩ := rd_some hv
  refine ev_hp hk .iaload 1 ha rfl rfl rfl rfl rfl ?_ ?_ hp e
  · simp only [px_th, ha]
  · simp only [px_hp]
    rw [if_pos hi]
theorem ev_sln (pc' : Nat) (hk : pt_mt[k]? = some r) (ha : px_at (px_co r) pc = some (.arraylength, 1)) (hp : pc + 1 = pc') (e : Ev S xs k pc' L (.int (Int32.ofNat S) :: st) h y) : Ev S xs k pc L (.retAddr 0 :: st) h y := by
  refine ev_hp hk .arraylength 1 ha rfl rfl rfl rfl rfl ?_ rfl hp e
  simp only [px_th, ha]
theorem ev_aal {x : Int32} {a n t p : Nat} {f : Nat → Option Nat} (b : Nat) (hv : rix n x = some p) (pc' : Nat) (hk : pt_mt[k]? = some r) (ha : px_at (px_co r) pc = some (.aaload, 1)) (hc : h.1[a]? = some (.inl (t, n, .inr (.inr (.inr (.inr f)))))) (ht : 2 ≤ t ∧ t ≤ 4) (hf : f p = some b) (hp : pc + 1 = pc') (e : Ev S xs k pc' L (.ref b :: st) h y) : Ev S xs k pc L (.int x :: .ref a :: st) h y := by
  obtain ⟨hi, rfl, -⟩ := rix_some hv
  refine ev_hp hk .aaload 1 ha rfl rfl rfl rfl rfl ?_ ?_ hp e
  · simp only [px_th, ha]
  · simp only [px_hp, hc]
    rw [if_pos ⟨hi, ht⟩, hf]
    rfl
theorem ev_ias {x : Int32} {v : Int32} {a n : Nat} {f A : Nat → Int32} {h1 : px_H} (hA : wr n f x v = some A) (pc' : Nat) (hk : pt_mt[k]? = some r) (ha : px_at (px_co r) pc = some (.iastore, 1)) (hc : h.1[a]? = some (.inl (0, n, .inl f))) (hs : (h.1.set a (.inl (0, n, .inl A)), h.2) = h1) (hp : pc + 1 = pc') (e : Ev S xs k pc' L st h1 y) : Ev S xs k pc L (.int v :: .int x :: .ref a :: st) h y := by
  subst hs
  obtain ⟨hi, rfl⟩ := wr_some hA
  refine ev_hp hk .iastore 1 ha rfl rfl rfl rfl rfl ?_ ?_ hp e
  · simp only [px_th, ha]
  · simp only [px_hp, hc]
    rw [if_pos hi]
theorem ev_bas {x : Int32} {v : Int32} {a n : Nat} {f A : Nat → Int32} {h1 : px_H} (hA : wrb n f x v = some A) (pc' : Nat) (hk : pt_mt[k]? = some r) (ha : px_at (px_co r) pc = some (.bastore, 1)) (hc : h.1[a]? = some (.inl (1, n, .inl f))) (hs : (h.1.set a (.inl (1, n, .inl A)), h.2) = h1) (hp : pc + 1 = pc') (e : Ev S xs k pc' L st h1 y) : Ev S xs k pc L (.int v :: .int x :: .ref a :: st) h y := by
  subst hs
  obtain ⟨hi, rfl⟩ := wrb_some hA
  refine ev_hp hk .bastore 1 ha rfl rfl rfl rfl rfl ?_ ?_ hp e
  · simp only [px_th, ha]
  · simp only [px_hp, hc]
    rw [if_pos hi]
theorem ev_las {x : Int32} {v : Int64} {a n : Nat} {f A : Nat → Int64} {h1 : px_H} (hA : wrl n f x v = some A) (pc' : Nat) (hk : pt_mt[k]? = some r) (ha : px_at (px_co r) pc = some (.lastore, 1)) (hc : h.1[a]? = some (.inl (5, n, .inr (.inl f)))) (hs : (h.1.set a (.inl (5, n, .inr (.inl A))), h.2) = h1) (hp : pc + 1 = pc') (e : Ev S xs k pc' L st h1 y) : Ev S xs k pc L (.long v :: .int x :: .ref a :: st) h y := by
  subst hs
  obtain ⟨hi, rfl⟩ := wrl_some hA
  refine ev_hp hk .lastore 1 ha rfl rfl rfl rfl rfl ?_ ?_ hp e
  · simp only [px_th, ha]
  · simp only [px_hp, hc]
    rw [if_pos hi]
theorem ev_das {x : Int32} {v : UInt64} {a n : Nat} {f A : Nat → UInt64} {h1 : px_H} (hA : wrd n f x v = some A) (pc' : Nat) (hk : pt_mt[k]? = some r) (ha : px_at (px_co r) pc = some (.dastore, 1)) (hc : h.1[a]? = some (.inl (6, n, .inr (.inr (.inr (.inl f)))))) (hs : (h.1.set a (.inl (6, n, .inr (.inr (.inr (.inl A))))), h.2) = h1) (hp : pc + 1 = pc') (e : Ev S xs k pc' L st h1 y) : Ev S xs k pc L (.double v :: .int x :: .ref a :: st) h y := by
  subst hs
  obtain ⟨hi, rfl⟩ := wrd_some hA
  refine ev_hp hk .dastore 1 ha rfl rfl rfl rfl rfl ?_ ?_ hp e
  · simp only [px_th, ha]
  · simp only [px_hp, hc]
    rw [if_pos hi]
theorem ev_acp {x a0 a n0 n1 : Nat} {sp dp n : Int32} {f g : Nat → Int32} {h1 : px_H} {ws : List Nat} (pc' : Nat) (hk : pt_mt[k]? = some r) (ha : px_at (px_co r) pc = some (.invokestatic x, 3)) (hm : (pt_M (px_cl r)).lookup x = some (6, 0, 5, ws)) (hc0 : h.1[a0]? = some (.inl (0, n0, .inl f))) (hc : h.1[a]? = some (.inl (0, n1, .inl g))) (hq : ¬ sp < 0 ∧ ¬ dp < 0 ∧ ¬ n < 0 ∧ sp.toNatClampNeg + n.toNatClampNeg ≤ n0 ∧ dp.toNatClampNeg + n.toNatClampNeg ≤ n1)
    (hs : (h.1.set a (.inl (0, n1, .inl (va_cpy f g sp.toNatClampNeg dp.toNatClampNeg n.toNatClampNeg))), h.2) = h1) (hp : pc + 3 = pc') (e : Ev S xs k pc' L [] h1 y) : Ev S xs k pc L [.int n, .int dp, .ref a, .int sp, .ref a0] h y := by
  subst hs
  refine ev_hp hk (.invokestatic x) 3 ha rfl rfl rfl rfl ?_ ?_ ?_ hp e
  · simp only [px_ca, hm]
    rw [if_neg (fun z => by omega)]
  · simp only [px_th, ha]
  · simp only [px_hp, hm, hc0, hc]
    rw [if_pos ⟨hq.1, hq.2.1, hq.2.2.1, hq.2.2.2.1, hq.2.2.2.2, by simp⟩]
theorem ev_ldI {x w : Nat} (v : Int32) (pc' : Nat) (hk : pt_mt[k]? = some r) (ha : px_at (px_co r) pc = some (.ldc x, 2)) (hl : (pt_K (px_cl r)).lookup x = some (.int v, w)) (hp : pc + 2 = pc') (e : Ev S xs k pc' L (.int v :: st) h y) : Ev S xs k pc L st h y := by
  refine ev_hp hk (.ldc x) 2 ha (by rfl) rfl rfl rfl rfl ?_ ?_ hp e
  · simp only [px_th, ha]
  · simp only [px_hp, hl]
theorem ev_ldF {x w : Nat} (v : UInt32) (pc' : Nat) (hk : pt_mt[k]? = some r) (ha : px_at (px_co r) pc = some (.ldc x, 2)) (hl : (pt_K (px_cl r)).lookup x = some (.float v, w)) (hp : pc + 2 = pc') (e : Ev S xs k pc' L (.float v :: st) h y) : Ev S xs k pc L st h y := by
  refine ev_hp hk (.ldc x) 2 ha (by rfl) rfl rfl rfl rfl ?_ ?_ hp e
  · simp only [px_th, ha]
  · simp only [px_hp, hl]
theorem ev_ldW {x w : Nat} (v : Int32) (pc' : Nat) (hk : pt_mt[k]? = some r) (ha : px_at (px_co r) pc = some (.ldc_w x, 3)) (hl : (pt_K (px_cl r)).lookup x = some (.int v, w)) (hp : pc + 3 = pc') (e : Ev S xs k pc' L (.int v :: st) h y) : Ev S xs k pc L st h y := by
  refine ev_hp hk (.ldc_w x) 3 ha (by rfl) rfl rfl rfl rfl ?_ ?_ hp e
  · simp only [px_th, ha]
  · simp only [px_hp, hl]
theorem ev_ldV {x w : Nat} (v : UInt32) (pc' : Nat) (hk : pt_mt[k]? = some r) (ha : px_at (px_co r) pc = some (.ldc_w x, 3)) (hl : (pt_K (px_cl r)).lookup x = some (.float v, w)) (hp : pc + 3 = pc') (e : Ev S xs k pc' L (.float v :: st) h y) : Ev S xs k pc L st h y := by
  refine ev_hp hk (.ldc_w x) 3 ha (by rfl) rfl rfl rfl rfl ?_ ?_ hp e
  · simp only [px_th, ha]
  · simp only [px_hp, hl]
theorem ev_ldJ {x w : Nat} (v : Int64) (pc' : Nat) (hk : pt_mt[k]? = some r) (ha : px_at (px_co r) pc = some (.ldc2_w x, 3)) (hl : (pt_K (px_cl r)).lookup x = some (.long v, w)) (hp : pc + 3 = pc') (e : Ev S xs k pc' L (.long v :: st) h y) : Ev S xs k pc L st h y := by
  refine ev_hp hk (.ldc2_w x) 3 ha (by rfl) rfl rfl rfl rfl ?_ ?_ hp e
  · simp only [px_th, ha]
  · simp only [px_hp, hl]
/-- calls -/
theorem ca_v {x j n b ci : Nat} {ws : List Nat} {rest fs : List Value} {rj : px_R} (hm : (pt_M (px_cl r)).lookup x = some (0, j, n, ws)) (hj : pt_mt[j]? = some rj) (hd : st.drop n = .ref b :: rest) (hc : h.1[b]? = some (.inr (ci, fs))) (hci : ci = pt_ob (px_cl rj)) (hn : n ≤ st.length) (hs : (rest.map fun v => v.category).sum ≤ 8) : px_ca (px_cl r) (.invokevirtual x) st h = some (0, j, .ref b :: (st.take n).reverse, rest) := by
  simp only [px_ca, hm, hj, hd, hc]
  rw [if_pos ⟨hci, hn, hs⟩]
theorem ca_s {x kd j n : Nat} {ws : List Nat} (hm : (pt_M (px_cl r)).lookup x = some (kd, j, n, ws)) (hkd : kd = 1 ∨ kd = 3 ∨ kd = 7) (hn : n ≤ st.length) (hs : ((st.drop n).map fun v => v.category).sum ≤ 8) : px_ca (px_cl r) (.invokestatic x) st h = some (kd, j, (st.take n).reverse, st.drop n) := by
  simp only [px_ca, hm]
  rw [if_pos ⟨hkd, hn, hs⟩]
theorem ev_cv {x b ci : Nat} {ws : List Nat} {rest fs : List Value} {rj : px_R} {v : Option Value} {h1 : px_H} {L0 : px_L} (j n : Nat) (st1 : List Value) (pc' : Nat) (hk : pt_mt[k]? = some r) (ha : px_at (px_co r) pc = some (.invokevirtual x, 3)) (hm : (pt_M (px_cl r)).lookup x = some (0, j, n, ws)) (hj : pt_mt[j]? = some rj) (hd : st.drop n = .ref b :: rest) (hc : h.1[b]? = some (.inr (ci, fs))) (hci : ci = pt_ob (px_cl rj)) (hn : Nat.ble n st.length = true) (hs : Nat.ble ((rest.map fun v => v.category).sum) 8 = true)
    (e1 : Ev S xs j 0 L0 [] h (.inl v, h1)) (hL : px_in0 (px_mx rj) (.ref b :: (st.take n).reverse) = L0) (hl : L0.length = px_mx rj) (hst : v.toList ++ rest = st1) (hp : pc + 3 = pc') (e : Ev S xs k pc' L st1 h1 y) : Ev S xs k pc L st h y := by
  subst hL hst
  exact ev_call hk _ 3 ha rfl rfl rfl rfl (ca_v hm hj hd hc hci (Nat.le_of_ble_eq_true hn) (Nat.le_of_ble_eq_true hs)) hj hl e1 hp e
theorem ev_cs {x kd : Nat} {ws : List Nat} {rj : px_R} {v : Option Value} {h1 : px_H} {L0 : px_L} (j n : Nat) (st1 : List Value) (pc' : Nat) (hk : pt_mt[k]? = some r) (ha : px_at (px_co r) pc = some (.invokestatic x, 3)) (hm : (pt_M (px_cl r)).lookup x = some (kd, j, n, ws)) (hkd : kd = 1 ∨ kd = 3 ∨ kd = 7) (hj : pt_mt[j]? = some rj) (hn : Nat.ble n st.length = true) (hs : Nat.ble (((st.drop n).map fun v => v.category).sum) 8 = true)
    (e1 : Ev S xs j 0 L0 [] h (.inl v, h1)) (hL : px_in0 (px_mx rj) (st.take n).reverse = L0) (hl : L0.length = px_mx rj) (hst : v.toList ++ st.drop n = st1) (hp : pc + 3 = pc') (e : Ev S xs k pc' L st1 h1 y) : Ev S xs k pc L st h y := by
  subst hL hst
  exact ev_call hk _ 3 ha rfl rfl rfl rfl (ca_s hm hkd (Nat.le_of_ble_eq_true hn) (Nat.le_of_ble_eq_true hs)) hj hl e1 hp e
theorem ha_nil {c : Nat} {hh : List (Nat × Nat × Nat × Nat)} {E : String} (hn : hh = []) : px_ha c hh pc E = none := by subst hn; rfl
theorem ev_cvX {x b ci : Nat} {ws : List Nat} {rest fs : List Value} {rj : px_R} {E : String} {h1 : px_H} {L0 : px_L} (j n : Nat) (hk : pt_mt[k]? = some r) (ha : px_at (px_co r) pc = some (.invokevirtual x, 3)) (hm : (pt_M (px_cl r)).lookup x = some (0, j, n, ws)) (hj : pt_mt[j]? = some rj) (hd : st.drop n = .ref b :: rest) (hc : h.1[b]? = some (.inr (ci, fs))) (hci : ci = pt_ob (px_cl rj)) (hn : Nat.ble n st.length = true) (hs : Nat.ble ((rest.map fun v => v.category).sum) 8 = true) (hh : px_hh r = [])
    (e1 : Ev S xs j 0 L0 [] h (.inr E, h1)) (hL : px_in0 (px_mx rj) (.ref b :: (st.take n).reverse) = L0) (hl : L0.length = px_mx rj) : Ev S xs k pc L st h (.inr E, h1) := by
  subst hL
  exact ev_callX hk _ 3 ha rfl rfl rfl rfl (ca_v hm hj hd hc hci (Nat.le_of_ble_eq_true hn) (Nat.le_of_ble_eq_true hs)) hj hl (Or.inl rfl) (ha_nil hh) e1
theorem ev_csX {x kd : Nat} {ws : List Nat} {rj : px_R} {E : String} {h1 : px_H} {L0 : px_L} (j n : Nat) (hk : pt_mt[k]? = some r) (ha : px_at (px_co r) pc = some (.invokestatic x, 3)) (hm : (pt_M (px_cl r)).lookup x = some (kd, j, n, ws)) (hkd : kd = 1 ∨ kd = 7) (hj : pt_mt[j]? = some rj) (hn : Nat.ble n st.length = true) (hs : Nat.ble (((st.drop n).map fun v => v.category).sum) 8 = true) (hh : px_hh r = [])
    (e1 : Ev S xs j 0 L0 [] h (.inr E, h1)) (hL : px_in0 (px_mx rj) (st.take n).reverse = L0) (hl : L0.length = px_mx rj) : Ev S xs k pc L st h (.inr E, h1) := by
  subst hL
  exact ev_callX hk _ 3 ha rfl rfl rfl rfl (ca_s hm (hkd.elim Or.inl (fun z => Or.inr (Or.inr z))) (Nat.le_of_ble_eq_true hn) (Nat.le_of_ble_eq_true hs)) hj hl (Or.inr hkd) (ha_nil hh) e1
theorem ev_cvC {x b ci t : Nat} {ws : List Nat} {rest fs : List Value} {rj : px_R} {E : String} {h1 : px_H} {L0 L' : px_L} (j n : Nat) (pc' : Nat) (hk : pt_mt[k]? = some r) (ha : px_at (px_co r) pc = some (.invokevirtual x, 3)) (hm : (pt_M (px_cl r)).lookup x = some (0, j, n, ws)) (hj : pt_mt[j]? = some rj) (hd : st.drop n = .ref b :: rest) (hc : h.1[b]? = some (.inr (ci, fs))) (hci : ci = pt_ob (px_cl rj)) (hn : Nat.ble n st.length = true) (hs : Nat.ble ((rest.map fun v => v.category).sum) 8 = true) (hh : px_ha (px_cl r) (px_hh r) pc E = some t) (hhs : px_hs (px_co r) t L = some (pc', L'))
    (e1 : Ev S xs j 0 L0 [] h (.inr E, h1)) (hL : px_in0 (px_mx rj) (.ref b :: (st.take n).reverse) = L0) (hl : L0.length = px_mx rj) (e : Ev S xs k pc' L' [] h1 y) : Ev S xs k pc L st h y := by
  subst hL
  exact ev_callC hk _ 3 ha rfl rfl rfl rfl (ca_v hm hj hd hc hci (Nat.le_of_ble_eq_true hn) (Nat.le_of_ble_eq_true hs)) hj hl (Or.inl rfl) hh hhs e1 e
theorem ev_tw {x : Nat} {E : String} {h1 : px_H} (hk : pt_mt[k]? = some r) (ha : px_at (px_co r) pc = some (.new x, 3)) (ho : px_th (px_cl r) (px_co r) pc st = some E) (hh : px_hh r = []) (hs : (h.1, h.2.1 + 1, h.2.2.1 + 6, false) = h1) : Ev S xs k pc L st h (.inr E, h1) := by
  subst hs
  exact ev_th hk _ 3 ha rfl rfl rfl rfl rfl ho hh
theorem ev_div {x y' : Int32} (pc' : Nat) (hk : pt_mt[k]? = some r) (ha : px_at (px_co r) pc = some (.idiv, 1)) (hy : y' ≠ 0) (hp : pc + 1 = pc') (e : Ev S xs k pc' L (.int (x / y') :: st) h y) : Ev S xs k pc L (.int y' :: .int x :: st) h y :=
  ev_op hk .idiv 1 ha (by simp only [px_op]; rw [if_neg hy]) hp e
theorem ev_rem {x y' : Int32} (pc' : Nat) (hk : pt_mt[k]? = some r) (ha : px_at (px_co r) pc = some (.irem, 1)) (hy : y' ≠ 0) (hp : pc + 1 = pc') (e : Ev S xs k pc' L (.int (x - x / y' * y') :: st) h y) : Ev S xs k pc L (.int y' :: .int x :: st) h y :=
  ev_op hk .irem 1 ha (by simp only [px_op]; rw [if_neg hy]) hp e
theorem ev_dv {x y' v : Int32} (pc' : Nat) (hk : pt_mt[k]? = some r) (ha : px_at (px_co r) pc = some (.idiv, 1)) (hv : zdiv x y' = some v) (hp : pc + 1 = pc') (e : Ev S xs k pc' L (.int v :: st) h y) : Ev S xs k pc L (.int y' :: .int x :: st) h y := by
  obtain ⟨hy, rfl⟩ := zdiv_some hv
  exact ev_div pc' hk ha hy hp e
theorem ev_rm {x y' v : Int32} (pc' : Nat) (hk : pt_mt[k]? = some r) (ha : px_at (px_co r) pc = some (.irem, 1)) (hv : zrem x y' = some v) (hp : pc + 1 = pc') (e : Ev S xs k pc' L (.int v :: st) h y) : Ev S xs k pc L (.int y' :: .int x :: st) h y := by
  obtain ⟨hy, rfl⟩ := zrem_some hv
  exact ev_rem pc' hk ha hy hp e
/-- a store behind what is no first half -/
theorem px_st1_v {L : px_L} {i : Nat} {v : Value} {u : Option Value} (hu : px_cz u = true) (hL : (L[i]?).getD none = u) (hi : Nat.blt (i + 1) L.length = true) (hv : v.category = 1) : px_st1 L (i + 1) v = some (L.set (i + 1) (some v)) := by
  unfold px_st1
  refine if_pos ⟨Nat.le_of_ble_eq_true hi, ?_, hv⟩
  show (match (L[i]?).getD none with | some v => decide (v.category = 1) | none => true) = true
  rw [hL]
  exact hu
theorem px_st2_v {L : px_L} {i : Nat} {v : Value} {u : Option Value} (hu : px_cz u = true) (hL : (L[i]?).getD none = u) (hi : Nat.blt (i + 1 + 1) L.length = true) (hv : v.category = 2) : px_st2 L (i + 1) v = some ((L.set (i + 1) (some v)).set (i + 1 + 1) none) := by
  unfold px_st2
  refine if_pos ⟨Nat.le_of_ble_eq_true hi, ?_, hv⟩
  show (match (L[i]?).getD none with | some v => decide (v.category = 1) | none => true) = true
  rw [hL]
  exact hu
theorem ev_ddv {x y' v : UInt64} (pc' : Nat) (hk : pt_mt[k]? = some r) (ha : px_at (px_co r) pc = some (.ddiv, 1)) (hv : zddiv x y' = some v) (hp : pc + 1 = pc') (e : Ev S xs k pc' L (.double v :: st) h y) : Ev S xs k pc L (.double y' :: .double x :: st) h y := by
  refine ev_op hk .ddiv 1 ha ?_ hp e
  unfold zddiv at hv
  split at hv
  · rename_i hc; cases hv; simp only [px_op]; rw [if_pos hc]
  · cases hv
theorem ev_fdv {x y' v : UInt32} (pc' : Nat) (hk : pt_mt[k]? = some r) (ha : px_at (px_co r) pc = some (.fdiv, 1)) (hv : zfdiv x y' = some v) (hp : pc + 1 = pc') (e : Ev S xs k pc' L (.float v :: st) h y) : Ev S xs k pc L (.float y' :: .float x :: st) h y := by
  refine ev_op hk .fdiv 1 ha ?_ hp e
  unfold zfdiv at hv
  split at hv
  · rename_i hc; cases hv; simp only [px_op]; rw [if_pos hc]
  · cases hv
theorem ev_fd {x : UInt32} {v : UInt64} (pc' : Nat) (hk : pt_mt[k]? = some r) (ha : px_at (px_co r) pc = some (.f2d, 1)) (hv : zf2d x = some v) (hp : pc + 1 = pc') (e : Ev S xs k pc' L (.double v :: st) h y) : Ev S xs k pc L (.float x :: st) h y := by
  refine ev_op hk .f2d 1 ha ?_ hp e
  unfold zf2d at hv
  split at hv
  · rename_i hc; cases hv; simp only [px_op]; rw [if_pos hc]
  · cases hv
/-- chains -/
def bnd {α γ : Type} (o : Option α) (f : α → Option γ) : Option γ := match o with
  | some a => f a
  | none => none
def bnd2 {α β γ : Type} (o : Option (α × β)) (f : α → β → Option γ) : Option γ := match o with
  | some q => f q.1 q.2
  | none => none
def bnd3 {α β β' γ : Type} (o : Option (α × β × β')) (f : α → β → β' → Option γ) : Option γ := match o with
  | some q => f q.1 q.2.1 q.2.2
  | none => none
def bnd4 {α β β' β'' γ : Type} (o : Option (α × β × β' × β'')) (f : α → β → β' → β'' → Option γ) : Option γ := match o with
  | some q => f q.1 q.2.1 q.2.2.1 q.2.2.2
  | none => none
def bnd5 {α0 α1 α2 α3 α4 γ : Type} (o : Option (α0 × α1 × α2 × α3 × α4)) (f : α0 → α1 → α2 → α3 → α4 → Option γ) : Option γ := match o with
  | some q => f q.1 q.2.1 q.2.2.1 q.2.2.2.1 q.2.2.2.2
  | none => none
def bnd6 {α0 α1 α2 α3 α4 α5 γ : Type} (o : Option (α0 × α1 × α2 × α3 × α4 × α5)) (f : α0 → α1 → α2 → α3 → α4 → α5 → Option γ) : Option γ := match o with
  | some q => f q.1 q.2.1 q.2.2.1 q.2.2.2.1 q.2.2.2.2.1 q.2.2.2.2.2
  | none => none
def bnd7 {α0 α1 α2 α3 α4 α5 α6 γ : Type} (o : Option (α0 × α1 × α2 × α3 × α4 × α5 × α6)) (f : α0 → α1 → α2 → α3 → α4 → α5 → α6 → Option γ) : Option γ := match o with
  | some q => f q.1 q.2.1 q.2.2.1 q.2.2.2.1 q.2.2.2.2.1 q.2.2.2.2.2.1 q.2.2.2.2.2.2
  | none => none
def bnd8 {α0 α1 α2 α3 α4 α5 α6 α7 γ : Type} (o : Option (α0 × α1 × α2 × α3 × α4 × α5 × α6 × α7)) (f : α0 → α1 → α2 → α3 → α4 → α5 → α6 → α7 → Option γ) : Option γ := match o with
  | some q => f q.1 q.2.1 q.2.2.1 q.2.2.2.1 q.2.2.2.2.1 q.2.2.2.2.2.1 q.2.2.2.2.2.2.1 q.2.2.2.2.2.2.2
  | none => none
def bnd9 {α0 α1 α2 α3 α4 α5 α6 α7 α8 γ : Type} (o : Option (α0 × α1 × α2 × α3 × α4 × α5 × α6 × α7 × α8)) (f : α0 → α1 → α2 → α3 → α4 → α5 → α6 → α7 → α8 → Option γ) : Option γ := match o with
  | some q => f q.1 q.2.1 q.2.2.1 q.2.2.2.1 q.2.2.2.2.1 q.2.2.2.2.2.1 q.2.2.2.2.2.2.1 q.2.2.2.2.2.2.2.1 q.2.2.2.2.2.2.2.2
  | none => none
def bnd10 {α0 α1 α2 α3 α4 α5 α6 α7 α8 α9 γ : Type} (o : Option (α0 × α1 × α2 × α3 × α4 × α5 × α6 × α7 × α8 × α9)) (f : α0 → α1 → α2 → α3 → α4 → α5 → α6 → α7 → α8 → α9 → Option γ) : Option γ := match o with
  | some q => f q.1 q.2.1 q.2.2.1 q.2.2.2.1 q.2.2.2.2.1 q.2.2.2.2.2.1 q.2.2.2.2.2.2.1 q.2.2.2.2.2.2.2.1 q.2.2.2.2.2.2.2.2.1 q.2.2.2.2.2.2.2.2.2
  | none => none
def bnd11 {α0 α1 α2 α3 α4 α5 α6 α7 α8 α9 α10 γ : Type} (o : Option (α0 × α1 × α2 × α3 × α4 × α5 × α6 × α7 × α8 × α9 × α10)) (f : α0 → α1 → α2 → α3 → α4 → α5 → α6 → α7 → α8 → α9 → α10 → Option γ) : Option γ := match o with
  | some q => f q.1 q.2.1 q.2.2.1 q.2.2.2.1 q.2.2.2.2.1 q.2.2.2.2.2.1 q.2.2.2.2.2.2.1 q.2.2.2.2.2.2.2.1 q.2.2.2.2.2.2.2.2.1 q.2.2.2.2.2.2.2.2.2.1 q.2.2.2.2.2.2.2.2.2.2
  | none => none
/-- what a call answers, or what it throws -/
def bnx {α γ : Type} (o : Option (α ⊕ String)) (f : α → Option γ) (g : String → Option γ) : Option γ := match o with
  | some (.inl a) => f a
  | some (.inr E) => g E
  | none => none
theorem bnd_some {α γ : Type} {o : Option α} {f : α → Option γ} {x : γ} (h : bnd o f = some x) : ∃ a, o = some a ∧ f a = some x := by
  cases o with
  | none => cases h
  | some a => exact ⟨a, rfl, h⟩
theorem bnd2_some {α β γ : Type} {o : Option (α × β)} {f : α → β → Option γ} {x : γ} (h : bnd2 o f = some x) : ∃ a b, o = some (a, b) ∧ f a b = some x := by
  cases o with
  | none => cases h
  | some a => exact ⟨a.1, a.2, rfl, h⟩
theorem bnd3_some {α β β' γ : Type} {o : Option (α × β × β')} {f : α → β → β' → Option γ} {x : γ} (h : bnd3 o f = some x) : ∃ a b c, o = some (a, b, c) ∧ f a b c = some x := by
  cases o with
  | none => cases h
  | some a => exact ⟨a.1, a.2.1, a.2.2, rfl, h⟩
theorem bnd4_some {α β β' β'' γ : Type} {o : Option (α × β × β' × β'')} {f : α → β → β' → β'' → Option γ} {x : γ} (h : bnd4 o f = some x) : ∃ a b c d, o = some (a, b, c, d) ∧ f a b c d = some x := by
  cases o with
  | none => cases h
  | some a => exact ⟨a.1, a.2.1, a.2.2.1, a.2.2.2, rfl, h⟩
theorem bnd5_some {α0 α1 α2 α3 α4 γ : Type} {o : Option (α0 × α1 × α2 × α3 × α4)} {f : α0 → α1 → α2 → α3 → α4 → Option γ} {x : γ} (h : bnd5 o f = some x) : ∃ x0 x1 x2 x3 x4, o = some (x0, x1, x2, x3, x4) ∧ f x0 x1 x2 x3 x4 = some x := by
  cases o with
  | none => cases h
  | some q => exact ⟨q.1, q.2.1, q.2.2.1, q.2.2.2.1, q.2.2.2.2, rfl, h⟩
theorem bnd6_some {α0 α1 α2 α3 α4 α5 γ : Type} {o : Option (α0 × α1 × α2 × α3 × α4 × α5)} {f : α0 → α1 → α2 → α3 → α4 → α5 → Option γ} {x : γ} (h : bnd6 o f = some x) : ∃ x0 x1 x2 x3 x4 x5, o = some (x0, x1, x2, x3, x4, x5) ∧ f x0 x1 x2 x3 x4 x5 = some x := by
  cases o with
  | none => cases h
  | some q => exact ⟨q.1, q.2.1, q.2.2.1, q.2.2.2.1, q.2.2.2.2.1, q.2.2.2.2.2, rfl, h⟩
theorem bnd7_some {α0 α1 α2 α3 α4 α5 α6 γ : Type} {o : Option (α0 × α1 × α2 × α3 × α4 × α5 × α6)} {f : α0 → α1 → α2 → α3 → α4 → α5 → α6 → Option γ} {x : γ} (h : bnd7 o f = some x) : ∃ x0 x1 x2 x3 x4 x5 x6, o = some (x0, x1, x2, x3, x4, x5, x6) ∧ f x0 x1 x2 x3 x4 x5 x6 = some x := by
  cases o with
  | none => cases h
  | some q => exact ⟨q.1, q.2.1, q.2.2.1, q.2.2.2.1, q.2.2.2.2.1, q.2.2.2.2.2.1, q.2.2.2.2.2.2, rfl, h⟩
theorem bnd8_some {α0 α1 α2 α3 α4 α5 α6 α7 γ : Type} {o : Option (α0 × α1 × α2 × α3 × α4 × α5 × α6 × α7)} {f : α0 → α1 → α2 → α3 → α4 → α5 → α6 → α7 → Option γ} {x : γ} (h : bnd8 o f = some x) : ∃ x0 x1 x2 x3 x4 x5 x6 x7, o = some (x0, x1, x2, x3, x4, x5, x6, x7) ∧ f x0 x1 x2 x3 x4 x5 x6 x7 = some x := by
  cases o with
  | none => cases h
  | some q => exact ⟨q.1, q.2.1, q.2.2.1, q.2.2.2.1, q.2.2.2.2.1, q.2.2.2.2.2.1, q.2.2.2.2.2.2.1, q.2.2.2.2.2.2.2, rfl, h⟩
theorem bnd9_some {α0 α1 α2 α3 α4 α5 α6 α7 α8 γ : Type} {o : Option (α0 × α1 × α2 × α3 × α4 × α5 × α6 × α7 × α8)} {f : α0 → α1 → α2 → α3 → α4 → α5 → α6 → α7 → α8 → Option γ} {x : γ} (h : bnd9 o f = some x) : ∃ x0 x1 x2 x3 x4 x5 x6 x7 x8, o = some (x0, x1, x2, x3, x4, x5, x6, x7, x8) ∧ f x0 x1 x2 x3 x4 x5 x6 x7 x8 = some x := by
  cases o with
  | none => cases h
  | some q => exact ⟨q.1, q.2.1, q.2.2.1, q.2.2.2.1, q.2.2.2.2.1, q.2.2.2.2.2.1, q.2.2.2.2.2.2.1, q.2.2.2.2.2.2.2.1, q.2.2.2.2.2.2.2.2, rfl, h⟩
theorem bnd10_some {α0 α1 α2 α3 α4 α5 α6 α7 α8 α9 γ : Type} {o : Option (α0 × α1 × α2 × α3 × α4 × α5 × α6 × α7 × α8 × α9)} {f : α0 → α1 → α2 → α3 → α4 → α5 → α6 → α7 → α8 → α9 → Option γ} {x : γ} (h : bnd10 o f = some x) : ∃ x0 x1 x2 x3 x4 x5 x6 x7 x8 x9, o = some (x0, x1, x2, x3, x4, x5, x6, x7, x8, x9) ∧ f x0 x1 x2 x3 x4 x5 x6 x7 x8 x9 = some x := by
  cases o with
  | none => cases h
  | some q => exact ⟨q.1, q.2.1, q.2.2.1, q.2.2.2.1, q.2.2.2.2.1, q.2.2.2.2.2.1, q.2.2.2.2.2.2.1, q.2.2.2.2.2.2.2.1, q.2.2.2.2.2.2.2.2.1, q.2.2.2.2.2.2.2.2.2, rfl, h⟩
theorem bnd11_some {α0 α1 α2 α3 α4 α5 α6 α7 α8 α9 α10 γ : Type} {o : Option (α0 × α1 × α2 × α3 × α4 × α5 × α6 × α7 × α8 × α9 × α10)} {f : α0 → α1 → α2 → α3 → α4 → α5 → α6 → α7 → α8 → α9 → α10 → Option γ} {x : γ} (h : bnd11 o f = some x) : ∃ x0 x1 x2 x3 x4 x5 x6 x7 x8 x9 x10, o = some (x0, x1, x2, x3, x4, x5, x6, x7, x8, x9, x10) ∧ f x0 x1 x2 x3 x4 x5 x6 x7 x8 x9 x10 = some x := by
  cases o with
  | none => cases h
  | some q => exact ⟨q.1, q.2.1, q.2.2.1, q.2.2.2.1, q.2.2.2.2.1, q.2.2.2.2.2.1, q.2.2.2.2.2.2.1, q.2.2.2.2.2.2.2.1, q.2.2.2.2.2.2.2.2.1, q.2.2.2.2.2.2.2.2.2.1, q.2.2.2.2.2.2.2.2.2.2, rfl, h⟩
theorem bnx_some {α γ : Type} {o : Option (α ⊕ String)} {f : α → Option γ} {g : String → Option γ} {x : γ} (h : bnx o f g = some x) : (∃ a, o = some (.inl a) ∧ f a = some x) ∨ (∃ E, o = some (.inr E) ∧ g E = some x) := by
  cases o with
  | none => cases h
  | some a =>
    cases a with
    | inl a => exact Or.inl ⟨a, rfl, h⟩
    | inr E => exact Or.inr ⟨E, rfl, h⟩
def iter {σ ρ : Type} (b : σ → Option (σ ⊕ ρ)) : Nat → σ → Option ρ
  | 0, _ => none
  | n + 1, s => match b s with
    | none => none
    | some (.inl s') => iter b n s'
    | some (.inr x) => some x
theorem ev_iter {σ ρ : Type} {b : σ → Option (σ ⊕ ρ)} (P : σ → Prop) (M : ρ → Prop) (hb : ∀ s x, b s = some x → Sum.elim P M x → P s) : ∀ (n : Nat) (s : σ) (x : ρ), iter b n s = some x → M x → P s := by
  intro n
  induction n with
  | zero => intro s x h; cases h
  | succ n ih =>
    intro s x h hM
    unfold iter at h
    split at h
    · cases h
    · rename_i s' hs
      exact hb s _ hs (ih s' x h hM)
    · rename_i x' hs
      cases h
      exact hb s _ hs hM
/-- as many turns as no loop takes -/
def fu : Nat := 1000000
end PXW

/-! THE TYPED HEAP: what lies where once the law's two objects and two arrays stand -/
section PXH
abbrev zI : Type := (Nat → Int32) × Int64 × (Nat → Int32)
abbrev zC : Type := (Nat → Int32) × (Nat → Nat → Int32)
abbrev zG : Type := (Nat → Nat → Int32) × (Nat → Int64) × (Nat → Nat → Int32) × (Nat → Bool)
abbrev zD : Type := Bool × Int32
abbrev zM : Type := (Nat → Int32) × Int64 × (Nat → Nat → Int32) × Bool
def z1 {α : Type} (f : Nat → α) (k : Nat) (v : α) : Nat → α := fun j => if j = k then v else f j
def z2 {α : Type} (f : Nat → Nat → α) (a k : Nat) (v : α) : Nat → Nat → α := fun b => if b = a then z1 (f b) k v else f b
def iF (I : zI) (k : Nat) : Int32 := I.1 k
def iN (I : zI) : Int64 := I.2.1
def iA (I : zI) : Nat → Int32 := I.2.2
def wiF (I : zI) (k : Nat) (v : Int32) : zI := (z1 I.1 k v, I.2)
def wiN (I : zI) (v : Int64) : zI := (I.1, v, I.2.2)
def wiA (I : zI) (f : Nat → Int32) : zI := (I.1, I.2.1, f)
def sF (C : zC) (k : Nat) : Int32 := C.1 k
def sA (C : zC) (k : Nat) : Nat → Int32 := C.2 k
def wsF (C : zC) (k : Nat) (v : Int32) : zC := (z1 C.1 k v, C.2)
def wsA (C : zC) (k : Nat) (f : Nat → Int32) : zC := (C.1, z1 C.2 k f)
def gF (G : zG) (r k : Nat) : Int32 := G.1 r k
def gN (G : zG) (r : Nat) : Int64 := G.2.1 r
def gA (G : zG) (r : Nat) : Nat → Int32 := G.2.2.1 r
def gB (G : zG) (r : Nat) : Bool := G.2.2.2 r
def wgF (G : zG) (r k : Nat) (v : Int32) : zG := (z2 G.1 r k v, G.2)
def wgN (G : zG) (r : Nat) (v : Int64) : zG := (G.1, z1 G.2.1 r v, G.2.2)
def wgA (G : zG) (r : Nat) (f : Nat → Int32) : zG := (G.1, G.2.1, z1 G.2.2.1 r f, G.2.2.2)
def wgB (G : zG) (r : Nat) (b : Bool) : zG := (G.1, G.2.1, G.2.2.1, z1 G.2.2.2 r b)
def mF (M : zM) (k : Nat) : Int32 := M.1 k
def mN (M : zM) : Int64 := M.2.1
def mA (M : zM) (a : Nat) : Nat → Int32 := M.2.2.1 a
def mB (M : zM) : Bool := M.2.2.2
def wmF (M : zM) (k : Nat) (v : Int32) : zM := (z1 M.1 k v, M.2)
def wmN (M : zM) (v : Int64) : zM := (M.1, v, M.2.2)
def wmA (M : zM) (a : Nat) (f : Nat → Int32) : zM := (M.1, M.2.1, z1 M.2.2.1 a f, M.2.2.2)
def wmB (M : zM) (b : Bool) : zM := (M.1, M.2.1, M.2.2.1, b)
def gup (Γ : Nat → zG) (g : Nat) (G : zG) : Nat → zG := fun a => if a = g then G else Γ a
theorem gup_same {Γ : Nat → zG} {g : Nat} {G : zG} : gup Γ g G g = G := if_pos rfl
theorem gup_ne {Γ : Nat → zG} {g g' : Nat} {G : zG} (h : g' ≠ g) : gup Γ g G g' = Γ g' := if_neg h
theorem gup_gup {Γ : Nat → zG} {g : Nat} {G G' : zG} : gup (gup Γ g G) g G' = gup Γ g G' := by
  funext a
  unfold gup
  by_cases h : a = g
  · rw [if_pos h, if_pos h]
  · rw [if_neg h, if_neg h, if_neg h]
theorem gup_self {Γ : Nat → zG} {g : Nat} : gup Γ g (Γ g) = Γ := by
  funext a
  unfold gup
  by_cases h : a = g
  · rw [if_pos h, h]
  · rw [if_neg h]
theorem z1_same {α : Type} {f : Nat → α} {k : Nat} {v : α} : z1 f k v k = v := if_pos rfl
theorem z1_ne {α : Type} {f : Nat → α} {k k' : Nat} {v : α} (h : k' ≠ k) : z1 f k v k' = f k' := if_neg h
theorem z2_same {α : Type} {f : Nat → Nat → α} {a k : Nat} {v : α} : z2 f a k v a = z1 (f a) k v := if_pos rfl
theorem z2_ne {α : Type} {f : Nat → Nat → α} {a a' k : Nat} {v : α} (h : a' ≠ a) : z2 f a k v a' = f a' := if_neg h
def isG (g : Nat) : Prop := g = 10 ∨ g = 36 ∨ g = 62 ∨ g = 90 ∨ g = 116 ∨ g = 142 ∨ g = 168 ∨ g = 194 ∨ g = 220
theorem isG_10 : isG 10 := Or.inl rfl
theorem isG_36 : isG 36 := Or.inr (Or.inl rfl)
theorem isG_62 : isG 62 := Or.inr (Or.inr (Or.inl rfl))
theorem isG_h {p : Nat} (h : p < 6) : isG (90 + 26 * p) := by
  unfold isG
  omega
theorem ne_lo_h {g p : Nat} (h : g < 88) : g ≠ 90 + 26 * p := by omega
theorem ne_h_lo {g p : Nat} (h : g < 88) : 90 + 26 * p ≠ g := by omega
def isMA (a : Nat) : Prop := 248 ≤ a ∧ a ≤ 260
def mlen (a : Nat) : Nat := if a = 248 then 600 else if a = 253 then 960 else if a < 254 then 160 else if a < 258 then 60 else if a = 260 then 37 else 2
def c_obj (c : Nat) (l : List Value) : va_E := .inr (c, l)
def c_arr (n : Nat) (f : Nat → Int32) : va_E := .inl (0, n, .inl f)
/-- a cell of a Globe: by what lies at its place alone -/
def px_cg (g r : Nat) (F : Nat → Int32) (N : Int64) (X : Nat → Int32) (b : Bool) : va_E :=
  if r = 0 then c_obj 1 [.ref (g + 1), .ref (g + 5), .int (F 2), .int (F 3), .int (F 4), .ref (g + 6), .int (F 6), .ref (g + 17)]
  else if r = 1 then c_obj 0 [.int (F 0), .ref (g + 2), .ref (g + 3), .ref (g + 4)]
  else if r < 5 then c_arr 12 X
  else if r = 5 then c_arr 9 X
  else if r = 6 then .inl (3, 10, .inr (.inr (.inr (.inr (fun i => if i < 10 then some (g + (7 + i)) else none)))))
  else if r < 17 then c_obj 6 [.long N, .int (b2i b), .int (F 2), .int (F 3), .int (F 4), .int (F 5), .int (F 6), .int (F 7)]
  else if r = 17 then .inl (4, 8, .inr (.inr (.inr (.inr (fun i => if i < 8 then some (g + (18 + i)) else none)))))
  else c_obj 4 [.int (F 0), .int (F 1), .int (F 2), .int (b2i b)]
def px_cG (Γ : Nat → zG) (g r : Nat) : va_E := px_cg g r (gF (Γ g) r) (gN (Γ g) r) (gA (Γ g) r) (gB (Γ g) r)
/-- the rest -/
def px_cl0 (I : zI) (C : zC) (D : zD) (a : Nat) : va_E := match a with
  | 0 => c_obj 7 [.ref 1, .ref 3, .ref 10, .ref 36, .ref 62, .int (b2i D.1), .ref 88, .ref 246, .int D.2]
  | 1 => c_obj 3 [.ref 2, .int (iF I 1), .int (iF I 2), .int (iF I 3), .int (iF I 4), .long (iN I), .int (iF I 6), .int (iF I 7), .int (iF I 8), .int (iF I 9)]
  | 2 => .inl (1, 600, .inl (iA I))
  | 3 => c_obj 5 [.int (sF C 0), .int (sF C 1), .ref 4, .ref 5, .ref 6, .ref 7, .int (sF C 6), .ref 8, .ref 9]
  | 4 => c_arr 40 (sA C 2)
  | 5 => c_arr 40 (sA C 3)
  | 6 => c_arr 40 (sA C 4)
  | 7 => c_arr 40 (sA C 5)
  | 8 => c_arr 2 (sA C 7)
  | _ => c_arr 2 (sA C 8)
def px_ch (Y : Nat → Int32) (a : Nat) : va_E := if a = 88 then c_obj 2 [.int (Y 0), .int (Y 1), .ref 89] else .inl (2, 6, .inr (.inr (.inr (.inr (fun i => if i < 6 then some (90 + 26 * i) else none)))))
def px_cm (O : Nat → Int32) (M : zM) (ou : Nat → Int64) (od : Nat → UInt64) (a : Nat) : va_E :=
  if a = 246 then .inl (1, 37, .inl O)
  else if a = 247 then c_obj 8 [.int (mF M 0), .ref 248, .int (mF M 2), .int (mF M 3), .int (mF M 4), .int (mF M 5), .int (mF M 6), .int (mF M 7), .int (mF M 8), .int (mF M 9), .int (mF M 10), .int (mF M 11), .long (mN M), .ref 249, .ref 250, .ref 251, .ref 252, .ref 253, .int (mF M 18), .int (b2i (mB M)), .ref 254, .ref 255, .ref 256, .ref 257, .ref 258, .ref 259, .int (mF M 26), .int (mF M 27), .int (mF M 28), .int (mF M 29), .ref 260, .int (mF M 31)]
  else if a < 261 then c_arr (mlen a) (mA M a)
  else if a = 261 then .inl (5, 1, .inr (.inl ou))
  else .inl (6, 1, .inr (.inr (.inr (.inl od))))
def px_cell (I : zI) (C : zC) (Y : Nat → Int32) (Γ : Nat → zG) (D : zD) (O : Nat → Int32) (M : zM) (ou : Nat → Int64) (od : Nat → UInt64) (a : Nat) : va_E :=
  if a < 10 then px_cl0 I C D a
  else if a < 88 then px_cG Γ (10 + 26 * ((a - 10) / 26)) ((a - 10) % 26)
  else if a < 90 then px_ch Y a
  else if a < 246 then px_cG Γ (90 + 26 * ((a - 90) / 26)) ((a - 90) % 26)
  else px_cm O M ou od a
def zS0 : Nat := 5036
def zH (I : zI) (C : zC) (Y : Nat → Int32) (Γ : Nat → zG) (D : zD) (O : Nat → Int32) (M : zM) (ou : Nat → Int64) (od : Nat → UInt64) (j : Nat) : px_H := ((List.range 263).map (px_cell I C Y Γ D O M ou od), j, zS0 + 6 * j, false)

variable {S : Nat} {xs : Nat → Int32} {I I1 : zI} {C C1 : zC} {Y Y1 : Nat → Int32} {Γ Γ1 : Nat → zG} {D D1 : zD} {O O1 : Nat → Int32} {M M1 : zM} {ou ou1 : Nat → Int64} {od od1 : Nat → UInt64} {j g i : Nat} {G G1 : zG}
theorem zH_j : ((zH I C Y Γ D O M ou od j).1, (zH I C Y Γ D O M ou od j).2.1 + 1, (zH I C Y Γ D O M ou od j).2.2.1 + 6, false) = zH I C Y Γ D O M ou od (j + 1) := by
  simp only [zH, Nat.mul_add, Nat.mul_one, Nat.add_assoc]
theorem ev_gs {k pc : Nat} {L : px_L} {st : List Value} {y : (Option Value ⊕ String) × px_H} (h : Ev S xs k pc L st (zH I C Y (gup Γ g (Γ g)) D O M ou od j) y) : Ev S xs k pc L st (zH I C Y Γ D O M ou od j) y := by rwa [gup_self] at h
theorem ev_gs2 {k pc : Nat} {L : px_L} {st : List Value} {o : Option Value ⊕ String} (h : Ev S xs k pc L st (zH I C Y (gup Γ g (Γ g)) D O M ou od j) (o, zH I C Y (gup Γ g (Γ g)) D O M ou od j)) : Ev S xs k pc L st (zH I C Y Γ D O M ou od j) (o, zH I C Y Γ D O M ou od j) := by rwa [gup_self] at h
theorem zH_at {a : Nat} (h : a < 263) : (zH I C Y Γ D O M ou od j).1[a]? = some (px_cell I C Y Γ D O M ou od a) := by
  simp only [zH, List.getElem?_map, List.getElem?_range h, Option.map_some]
theorem cell_g {r : Nat} (hg : isG g) (hr : r < 26) : g + r < 263 ∧ px_cell I C Y Γ D O M ou od (g + r) = px_cG Γ g r := by
  have h1 : ∀ b k : Nat, r < 26 → (b + 26 * k + r - b) / 26 = k ∧ (b + 26 * k + r - b) % 26 = r := fun b k h => by omega
  unfold px_cell
  rcases hg with rfl | rfl | rfl | rfl | rfl | rfl | rfl | rfl | rfl
  · obtain ⟨e1, e2⟩ := h1 10 0 hr
    refine ⟨by omega, ?_⟩
    rw [if_neg (by omega), if_pos (by omega), e1, e2]
  · obtain ⟨e1, e2⟩ := h1 10 1 hr
    refine ⟨by omega, ?_⟩
    rw [if_neg (by omega), if_pos (by omega), e1, e2]
  · obtain ⟨e1, e2⟩ := h1 10 2 hr
    refine ⟨by omega, ?_⟩
    rw [if_neg (by omega), if_pos (by omega), e1, e2]
  · obtain ⟨e1, e2⟩ := h1 90 0 hr
    refine ⟨by omega, ?_⟩
    rw [if_neg (by omega), if_neg (by omega), if_neg (by omega), if_pos (by omega), e1, e2]
  · obtain ⟨e1, e2⟩ := h1 90 1 hr
    refine ⟨by omega, ?_⟩
    rw [if_neg (by omega), if_neg (by omega), if_neg (by omega), if_pos (by omega), e1, e2]
  · obtain ⟨e1, e2⟩ := h1 90 2 hr
    refine ⟨by omega, ?_⟩
    rw [if_neg (by omega), if_neg (by omega), if_neg (by omega), if_pos (by omega), e1, e2]
  · obtain ⟨e1, e2⟩ := h1 90 3 hr
    refine ⟨by omega, ?_⟩
    rw [if_neg (by omega), if_neg (by omega), if_neg (by omega), if_pos (by omega), e1, e2]
  · obtain ⟨e1, e2⟩ := h1 90 4 hr
    refine ⟨by omega, ?_⟩
    rw [if_neg (by omega), if_neg (by omega), if_neg (by omega), if_pos (by omega), e1, e2]
  · obtain ⟨e1, e2⟩ := h1 90 5 hr
    refine ⟨by omega, ?_⟩
    rw [if_neg (by omega), if_neg (by omega), if_neg (by omega), if_pos (by omega), e1, e2]
theorem zH_g {r : Nat} (hg : isG g) (hr : r < 26) (hG : Γ g = G) : (zH I C Y Γ D O M ou od j).1[g + r]? = some (px_cg g r (gF G r) (gN G r) (gA G r) (gB G r)) := by
  obtain ⟨h1, h2⟩ := cell_g (I := I) (C := C) (Y := Y) (Γ := Γ) (D := D) (O := O) (M := M) (ou := ou) (od := od) hg hr
  rw [zH_at h1, h2]
  subst hG
  rfl
theorem lk_globe (hg : isG g) (hG : Γ g = G) : (zH I C Y Γ D O M ou od j).1[g]? = some (.inr (1, [.ref (g + 1), .ref (g + 5), .int (gF G 0 2), .int (gF G 0 3), .int (gF G 0 4), .ref (g + 6), .int (gF G 0 6), .ref (g + 17)])) := zH_g (r := 0) hg (by decide) hG
theorem lk_cloth (hg : isG g) (hG : Γ g = G) : (zH I C Y Γ D O M ou od j).1[g + 1]? = some (.inr (0, [.int (gF G 1 0), .ref (g + 2), .ref (g + 3), .ref (g + 4)])) := zH_g (r := 1) hg (by decide) hG
theorem lk_spots (hg : isG g) (hG : Γ g = G) : (zH I C Y Γ D O M ou od j).1[g + 6]? = some (.inl (3, 10, .inr (.inr (.inr (.inr (fun i => if i < 10 then some (g + (7 + i)) else none)))))) := zH_g (r := 6) hg (by decide) hG
theorem lk_labels (hg : isG g) (hG : Γ g = G) : (zH I C Y Γ D O M ou od j).1[g + 17]? = some (.inl (4, 8, .inr (.inr (.inr (.inr (fun i => if i < 8 then some (g + (18 + i)) else none)))))) := zH_g (r := 17) hg (by decide) hG
theorem lk_spot (hg : isG g) (hp : i < 10) (hG : Γ g = G) : (zH I C Y Γ D O M ou od j).1[g + (7 + i)]? = some (.inr (6, [.long (gN G (7 + i)), .int (b2i (gB G (7 + i))), .int (gF G (7 + i) 2), .int (gF G (7 + i) 3), .int (gF G (7 + i) 4), .int (gF G (7 + i) 5), .int (gF G (7 + i) 6), .int (gF G (7 + i) 7)])) := by
  rw [zH_g (r := 7 + i) hg (by omega) hG]
  unfold px_cg
  rw [if_neg (by omega), if_neg (by omega), if_neg (by omega), if_neg (by omega), if_neg (by omega), if_pos (by omega)]
  rfl
theorem lk_label (hg : isG g) (hp : i < 8) (hG : Γ g = G) : (zH I C Y Γ D O M ou od j).1[g + (18 + i)]? = some (.inr (4, [.int (gF G (18 + i) 0), .int (gF G (18 + i) 1), .int (gF G (18 + i) 2), .int (b2i (gB G (18 + i)))])) := by
  rw [zH_g (r := 18 + i) hg (by omega) hG]
  unfold px_cg
  rw [if_neg (by omega), if_neg (by omega), if_neg (by omega), if_neg (by omega), if_neg (by omega), if_neg (by omega), if_neg (by omega)]
  rfl
theorem lk_sp {g p : Nat} (h : p < 10) : (fun i : Nat => if i < 10 then some (g + (7 + i)) else none) p = some (g + (7 + p)) := if_pos h
theorem lk_la {g p : Nat} (h : p < 8) : (fun i : Nat => if i < 8 then some (g + (18 + i)) else none) p = some (g + (18 + p)) := if_pos h
theorem lk_be {p : Nat} (h : p < 6) : (fun i : Nat => if i < 6 then some (90 + 26 * i) else none) p = some (90 + 26 * p) := if_pos h
theorem lk_a2 (hg : isG g) (hG : Γ g = G) : (zH I C Y Γ D O M ou od j).1[g + 2]? = some (.inl (0, 12, .inl (gA G 2))) := zH_g (r := 2) hg (by decide) hG
theorem lk_a3 (hg : isG g) (hG : Γ g = G) : (zH I C Y Γ D O M ou od j).1[g + 3]? = some (.inl (0, 12, .inl (gA G 3))) := zH_g (r := 3) hg (by decide) hG
theorem lk_a4 (hg : isG g) (hG : Γ g = G) : (zH I C Y Γ D O M ou od j).1[g + 4]? = some (.inl (0, 12, .inl (gA G 4))) := zH_g (r := 4) hg (by decide) hG
theorem lk_a5 (hg : isG g) (hG : Γ g = G) : (zH I C Y Γ D O M ou od j).1[g + 5]? = some (.inl (0, 9, .inl (gA G 5))) := zH_g (r := 5) hg (by decide) hG
theorem lk_dh : (zH I C Y Γ D O M ou od j).1[0]? = some (.inr (7, [.ref 1, .ref 3, .ref 10, .ref 36, .ref 62, .int (b2i D.1), .ref 88, .ref 246, .int D.2])) := zH_at (a := 0) (by decide)
theorem lk_input : (zH I C Y Γ D O M ou od j).1[1]? = some (.inr (3, [.ref 2, .int (iF I 1), .int (iF I 2), .int (iF I 3), .int (iF I 4), .long (iN I), .int (iF I 6), .int (iF I 7), .int (iF I 8), .int (iF I 9)])) := zH_at (a := 1) (by decide)
theorem lk_bytes : (zH I C Y Γ D O M ou od j).1[2]? = some (.inl (1, 600, .inl (iA I))) := zH_at (a := 2) (by decide)
theorem lk_script : (zH I C Y Γ D O M ou od j).1[3]? = some (.inr (5, [.int (sF C 0), .int (sF C 1), .ref 4, .ref 5, .ref 6, .ref 7, .int (sF C 6), .ref 8, .ref 9])) := zH_at (a := 3) (by decide)
theorem lk_sa2 : (zH I C Y Γ D O M ou od j).1[4]? = some (.inl (0, 40, .inl (sA C 2))) := zH_at (a := 4) (by decide)
theorem lk_sa3 : (zH I C Y Γ D O M ou od j).1[5]? = some (.inl (0, 40, .inl (sA C 3))) := zH_at (a := 5) (by decide)
theorem lk_sa4 : (zH I C Y Γ D O M ou od j).1[6]? = some (.inl (0, 40, .inl (sA C 4))) := zH_at (a := 6) (by decide)
theorem lk_sa5 : (zH I C Y Γ D O M ou od j).1[7]? = some (.inl (0, 40, .inl (sA C 5))) := zH_at (a := 7) (by decide)
theorem lk_sa7 : (zH I C Y Γ D O M ou od j).1[8]? = some (.inl (0, 2, .inl (sA C 7))) := zH_at (a := 8) (by decide)
theorem lk_sa8 : (zH I C Y Γ D O M ou od j).1[9]? = some (.inl (0, 2, .inl (sA C 8))) := zH_at (a := 9) (by decide)
theorem lk_hist : (zH I C Y Γ D O M ou od j).1[88]? = some (.inr (2, [.int (Y 0), .int (Y 1), .ref 89])) := zH_at (a := 88) (by decide)
theorem lk_before : (zH I C Y Γ D O M ou od j).1[89]? = some (.inl (2, 6, .inr (.inr (.inr (.inr (fun i => if i < 6 then some (90 + 26 * i) else none)))))) := zH_at (a := 89) (by decide)
theorem lk_out : (zH I C Y Γ D O M ou od j).1[246]? = some (.inl (1, 37, .inl O)) := zH_at (a := 246) (by decide)
theorem lk_model : (zH I C Y Γ D O M ou od j).1[247]? = some (.inr (8, [.int (mF M 0), .ref 248, .int (mF M 2), .int (mF M 3), .int (mF M 4), .int (mF M 5), .int (mF M 6), .int (mF M 7), .int (mF M 8), .int (mF M 9), .int (mF M 10), .int (mF M 11), .long (mN M), .ref 249, .ref 250, .ref 251, .ref 252, .ref 253, .int (mF M 18), .int (b2i (mB M)), .ref 254, .ref 255, .ref 256, .ref 257, .ref 258, .ref 259, .int (mF M 26), .int (mF M 27), .int (mF M 28), .int (mF M 29), .ref 260, .int (mF M 31)])) := zH_at (a := 247) (by decide)
theorem lk_m248 : (zH I C Y Γ D O M ou od j).1[248]? = some (.inl (0, 600, .inl (mA M 248))) := zH_at (a := 248) (by decide)
theorem ma_248 : isMA 248 := by unfold isMA; decide
theorem lk_m249 : (zH I C Y Γ D O M ou od j).1[249]? = some (.inl (0, 160, .inl (mA M 249))) := zH_at (a := 249) (by decide)
theorem ma_249 : isMA 249 := by unfold isMA; decide
theorem lk_m250 : (zH I C Y Γ D O M ou od j).1[250]? = some (.inl (0, 160, .inl (mA M 250))) := zH_at (a := 250) (by decide)
theorem ma_250 : isMA 250 := by unfold isMA; decide
theorem lk_m251 : (zH I C Y Γ D O M ou od j).1[251]? = some (.inl (0, 160, .inl (mA M 251))) := zH_at (a := 251) (by decide)
theorem ma_251 : isMA 251 := by unfold isMA; decide
theorem lk_m252 : (zH I C Y Γ D O M ou od j).1[252]? = some (.inl (0, 160, .inl (mA M 252))) := zH_at (a := 252) (by decide)
theorem ma_252 : isMA 252 := by unfold isMA; decide
theorem lk_m253 : (zH I C Y Γ D O M ou od j).1[253]? = some (.inl (0, 960, .inl (mA M 253))) := zH_at (a := 253) (by decide)
theorem ma_253 : isMA 253 := by unfold isMA; decide
theorem lk_m254 : (zH I C Y Γ D O M ou od j).1[254]? = some (.inl (0, 60, .inl (mA M 254))) := zH_at (a := 254) (by decide)
theorem ma_254 : isMA 254 := by unfold isMA; decide
theorem lk_m255 : (zH I C Y Γ D O M ou od j).1[255]? = some (.inl (0, 60, .inl (mA M 255))) := zH_at (a := 255) (by decide)
theorem ma_255 : isMA 255 := by unfold isMA; decide
theorem lk_m256 : (zH I C Y Γ D O M ou od j).1[256]? = some (.inl (0, 60, .inl (mA M 256))) := zH_at (a := 256) (by decide)
theorem ma_256 : isMA 256 := by unfold isMA; decide
theorem lk_m257 : (zH I C Y Γ D O M ou od j).1[257]? = some (.inl (0, 60, .inl (mA M 257))) := zH_at (a := 257) (by decide)
theorem ma_257 : isMA 257 := by unfold isMA; decide
theorem lk_m258 : (zH I C Y Γ D O M ou od j).1[258]? = some (.inl (0, 2, .inl (mA M 258))) := zH_at (a := 258) (by decide)
theorem ma_258 : isMA 258 := by unfold isMA; decide
theorem lk_m259 : (zH I C Y Γ D O M ou od j).1[259]? = some (.inl (0, 2, .inl (mA M 259))) := zH_at (a := 259) (by decide)
theorem ma_259 : isMA 259 := by unfold isMA; decide
theorem lk_m260 : (zH I C Y Γ D O M ou od j).1[260]? = some (.inl (0, 37, .inl (mA M 260))) := zH_at (a := 260) (by decide)
theorem ma_260 : isMA 260 := by unfold isMA; decide
theorem lk_ma {a : Nat} (h : isMA a) : (zH I C Y Γ D O M ou od j).1[a]? = some (.inl (0, mlen a, .inl (mA M a))) := by
  obtain ⟨h1, h2⟩ := h
  rw [zH_at (by omega)]
  unfold px_cell px_cm
  rw [if_neg (by omega), if_neg (by omega), if_neg (by omega), if_neg (by omega), if_neg (by omega), if_neg (by omega), if_pos (by omega)]
  rfl
theorem lk_ou : (zH I C Y Γ D O M ou od j).1[261]? = some (.inl (5, 1, .inr (.inl ou))) := zH_at (a := 261) (by decide)
theorem lk_od : (zH I C Y Γ D O M ou od j).1[262]? = some (.inl (6, 1, .inr (.inr (.inr (.inl od))))) := zH_at (a := 262) (by decide)
/-- writing: one cell changes -/
theorem zH_set {a : Nat} {e9 : va_E} (ha : a < 263) (h1 : px_cell I1 C1 Y1 Γ1 D1 O1 M1 ou1 od1 a = e9) (h2 : ∀ b, b < 263 → b ≠ a → px_cell I1 C1 Y1 Γ1 D1 O1 M1 ou1 od1 b = px_cell I C Y Γ D O M ou od b) : ((zH I C Y Γ D O M ou od j).1.set a e9, (zH I C Y Γ D O M ou od j).2) = zH I1 C1 Y1 Γ1 D1 O1 M1 ou1 od1 j := by
  unfold zH
  refine Prod.ext ?_ rfl
  dsimp only
  apply List.ext_getElem?
  intro b
  rw [List.getElem?_set]
  by_cases hb : a = b
  · subst hb
    rw [if_pos rfl, List.length_map, List.length_range, if_pos ha, List.getElem?_map, List.getElem?_range ha, Option.map_some, h1]
  · rw [if_neg hb, List.getElem?_map, List.getElem?_map]
    by_cases hb2 : b < 263
    · rw [List.getElem?_range hb2, Option.map_some, Option.map_some, h2 b hb2 (fun z => hb z.symm)]
    · rw [List.getElem?_eq_none (by rw [List.length_range]; omega), Option.map_none, Option.map_none]
theorem cG_ne {a b : Nat} (h : b ≠ a) {r : Nat} : px_cG (gup Γ a G) b r = px_cG Γ b r := by
  unfold px_cG
  rw [gup_ne h]
theorem cG_same {r' : Nat} (h : gF G1 r' = gF (Γ g) r' ∧ gN G1 r' = gN (Γ g) r' ∧ gA G1 r' = gA (Γ g) r' ∧ gB G1 r' = gB (Γ g) r') : px_cG (gup Γ g G1) g r' = px_cG Γ g r' := by
  unfold px_cG
  rw [gup_same, h.1, h.2.1, h.2.2.1, h.2.2.2]
theorem zH_setG {r : Nat} {e9 : va_E} (hg : isG g) (hr : r < 26) (h1 : px_cg g r (gF G1 r) (gN G1 r) (gA G1 r) (gB G1 r) = e9) (h2 : ∀ r', r' ≠ r → gF G1 r' = gF (Γ g) r' ∧ gN G1 r' = gN (Γ g) r' ∧ gA G1 r' = gA (Γ g) r' ∧ gB G1 r' = gB (Γ g) r') (hΓ : gup Γ g G1 = Γ1) : ((zH I C Y Γ D O M ou od j).1.set (g + r) e9, (zH I C Y Γ D O M ou od j).2) = zH I C Y Γ1 D O M ou od j := by
  subst hΓ
  obtain ⟨h3, h4⟩ := cell_g (I := I) (C := C) (Y := Y) (Γ := gup Γ g G1) (D := D) (O := O) (M := M) (ou := ou) (od := od) hg hr
  refine zH_set h3 ?_ (fun b hb hne => ?_)
  · rw [h4]
    unfold px_cG
    rw [gup_same]
    exact h1
  · unfold px_cell
    by_cases c1 : b < 10
    · rw [if_pos c1, if_pos c1]
    rw [if_neg c1, if_neg c1]
    by_cases c2 : b < 88
    · rw [if_pos c2, if_pos c2]
      by_cases e1 : 10 + 26 * ((b - 10) / 26) = g
      · rw [e1]
        exact cG_same (h2 _ (fun z => hne (by omega)))
      · exact cG_ne e1
    rw [if_neg c2, if_neg c2]
    by_cases c3 : b < 90
    · rw [if_pos c3, if_pos c3]
    rw [if_neg c3, if_neg c3]
    by_cases c4 : b < 246
    · rw [if_pos c4, if_pos c4]
      by_cases e1 : 90 + 26 * ((b - 90) / 26) = g
      · rw [e1]
        exact cG_same (h2 _ (fun z => hne (by omega)))
      · exact cG_ne e1
    rw [if_neg c4, if_neg c4]
theorem wgF_ne {r r' k : Nat} {v : Int32} (h : r' ≠ r) : gF (wgF G r k v) r' = gF G r' ∧ gN (wgF G r k v) r' = gN G r' ∧ gA (wgF G r k v) r' = gA G r' ∧ gB (wgF G r k v) r' = gB G r' := ⟨z2_ne h, rfl, rfl, rfl⟩
theorem wgN_ne {r r' : Nat} {v : Int64} (h : r' ≠ r) : gF (wgN G r v) r' = gF G r' ∧ gN (wgN G r v) r' = gN G r' ∧ gA (wgN G r v) r' = gA G r' ∧ gB (wgN G r v) r' = gB G r' := ⟨rfl, z1_ne h, rfl, rfl⟩
theorem wgA_ne {r r' : Nat} {v : Nat → Int32} (h : r' ≠ r) : gF (wgA G r v) r' = gF G r' ∧ gN (wgA G r v) r' = gN G r' ∧ gA (wgA G r v) r' = gA G r' ∧ gB (wgA G r v) r' = gB G r' := ⟨rfl, rfl, z1_ne h, rfl⟩
theorem wgB_ne {r r' : Nat} {v : Bool} (h : r' ≠ r) : gF (wgB G r v) r' = gF G r' ∧ gN (wgB G r v) r' = gN G r' ∧ gA (wgB G r v) r' = gA G r' ∧ gB (wgB G r v) r' = gB G r' := ⟨rfl, rfl, rfl, z1_ne h⟩
theorem sf_1_2 {v : Int32} (hg : isG g) (hG : Γ g = G) (hw : wgF G 0 2 v = G1) (hΓ : gup Γ g G1 = Γ1) : ((zH I C Y Γ D O M ou od j).1.set g (.inr (1, ([.ref (g + 1), .ref (g + 5), .int (gF G 0 2), .int (gF G 0 3), .int (gF G 0 4), .ref (g + 6), .int (gF G 0 6), .ref (g + 17)] : List Value).set 2 (.int v))), (zH I C Y Γ D O M ou od j).2) = zH I C Y Γ1 D O M ou od j := by
  subst hG hw
  refine zH_setG (r := 0) hg (by omega) ?_ (fun r' h => wgF_ne h) hΓ
  rfl
theorem sf_1_3 {v : Int32} (hg : isG g) (hG : Γ g = G) (hw : wgF G 0 3 v = G1) (hΓ : gup Γ g G1 = Γ1) : ((zH I C Y Γ D O M ou od j).1.set g (.inr (1, ([.ref (g + 1), .ref (g + 5), .int (gF G 0 2), .int (gF G 0 3), .int (gF G 0 4), .ref (g + 6), .int (gF G 0 6), .ref (g + 17)] : List Value).set 3 (.int v))), (zH I C Y Γ D O M ou od j).2) = zH I C Y Γ1 D O M ou od j := by
  subst hG hw
  refine zH_setG (r := 0) hg (by omega) ?_ (fun r' h => wgF_ne h) hΓ
  rfl
theorem sf_1_4 {v : Int32} (hg : isG g) (hG : Γ g = G) (hw : wgF G 0 4 v = G1) (hΓ : gup Γ g G1 = Γ1) : ((zH I C Y Γ D O M ou od j).1.set g (.inr (1, ([.ref (g + 1), .ref (g + 5), .int (gF G 0 2), .int (gF G 0 3), .int (gF G 0 4), .ref (g + 6), .int (gF G 0 6), .ref (g + 17)] : List Value).set 4 (.int v))), (zH I C Y Γ D O M ou od j).2) = zH I C Y Γ1 D O M ou od j := by
  subst hG hw
  refine zH_setG (r := 0) hg (by omega) ?_ (fun r' h => wgF_ne h) hΓ
  rfl
theorem sf_1_6 {v : Int32} (hg : isG g) (hG : Γ g = G) (hw : wgF G 0 6 v = G1) (hΓ : gup Γ g G1 = Γ1) : ((zH I C Y Γ D O M ou od j).1.set g (.inr (1, ([.ref (g + 1), .ref (g + 5), .int (gF G 0 2), .int (gF G 0 3), .int (gF G 0 4), .ref (g + 6), .int (gF G 0 6), .ref (g + 17)] : List Value).set 6 (.int v))), (zH I C Y Γ D O M ou od j).2) = zH I C Y Γ1 D O M ou od j := by
  subst hG hw
  refine zH_setG (r := 0) hg (by omega) ?_ (fun r' h => wgF_ne h) hΓ
  rfl
theorem sf_0_0 {v : Int32} (hg : isG g) (hG : Γ g = G) (hw : wgF G 1 0 v = G1) (hΓ : gup Γ g G1 = Γ1) : ((zH I C Y Γ D O M ou od j).1.set (g + 1) (.inr (0, ([.int (gF G 1 0), .ref (g + 2), .ref (g + 3), .ref (g + 4)] : List Value).set 0 (.int v))), (zH I C Y Γ D O M ou od j).2) = zH I C Y Γ1 D O M ou od j := by
  subst hG hw
  refine zH_setG (r := 1) hg (by omega) ?_ (fun r' h => wgF_ne h) hΓ
  rfl
theorem sf_6_0 {v : Int64} (hg : isG g) (hp : i < 10) (hG : Γ g = G) (hw : wgN G (7 + i) v = G1) (hΓ : gup Γ g G1 = Γ1) : ((zH I C Y Γ D O M ou od j).1.set (g + (7 + i)) (.inr (6, ([.long (gN G (7 + i)), .int (b2i (gB G (7 + i))), .int (gF G (7 + i) 2), .int (gF G (7 + i) 3), .int (gF G (7 + i) 4), .int (gF G (7 + i) 5), .int (gF G (7 + i) 6), .int (gF G (7 + i) 7)] : List Value).set 0 (.long v))), (zH I C Y Γ D O M ou od j).2) = zH I C Y Γ1 D O M ou od j := by
  subst hG hw
  refine zH_setG (r := 7 + i) hg (by omega) ?_ (fun r' h => wgN_ne h) hΓ
  unfold px_cg
  rw [if_neg (by omega), if_neg (by omega), if_neg (by omega), if_neg (by omega), if_neg (by omega), if_pos (by omega)]
  simp only [gF, gN, gA, gB, wgF, wgN, wgB, z2_same, z1_same]
  rfl
theorem sf_6_1 {v : Bool} (hg : isG g) (hp : i < 10) (hG : Γ g = G) (hw : wgB G (7 + i) v = G1) (hΓ : gup Γ g G1 = Γ1) : ((zH I C Y Γ D O M ou od j).1.set (g + (7 + i)) (.inr (6, ([.long (gN G (7 + i)), .int (b2i (gB G (7 + i))), .int (gF G (7 + i) 2), .int (gF G (7 + i) 3), .int (gF G (7 + i) 4), .int (gF G (7 + i) 5), .int (gF G (7 + i) 6), .int (gF G (7 + i) 7)] : List Value).set 1 (.int (b2i v)))), (zH I C Y Γ D O M ou od j).2) = zH I C Y Γ1 D O M ou od j := by
  subst hG hw
  refine zH_setG (r := 7 + i) hg (by omega) ?_ (fun r' h => wgB_ne h) hΓ
  unfold px_cg
  rw [if_neg (by omega), if_neg (by omega), if_neg (by omega), if_neg (by omega), if_neg (by omega), if_pos (by omega)]
  simp only [gF, gN, gA, gB, wgF, wgN, wgB, z2_same, z1_same]
  rfl
theorem sf_6_2 {v : Int32} (hg : isG g) (hp : i < 10) (hG : Γ g = G) (hw : wgF G (7 + i) 2 v = G1) (hΓ : gup Γ g G1 = Γ1) : ((zH I C Y Γ D O M ou od j).1.set (g + (7 + i)) (.inr (6, ([.long (gN G (7 + i)), .int (b2i (gB G (7 + i))), .int (gF G (7 + i) 2), .int (gF G (7 + i) 3), .int (gF G (7 + i) 4), .int (gF G (7 + i) 5), .int (gF G (7 + i) 6), .int (gF G (7 + i) 7)] : List Value).set 2 (.int v))), (zH I C Y Γ D O M ou od j).2) = zH I C Y Γ1 D O M ou od j := by
  subst hG hw
  refine zH_setG (r := 7 + i) hg (by omega) ?_ (fun r' h => wgF_ne h) hΓ
  unfold px_cg
  rw [if_neg (by omega), if_neg (by omega), if_neg (by omega), if_neg (by omega), if_neg (by omega), if_pos (by omega)]
  simp only [gF, gN, gA, gB, wgF, wgN, wgB, z2_same, z1_same]
  rfl
theorem sf_6_3 {v : Int32} (hg : isG g) (hp : i < 10) (hG : Γ g = G) (hw : wgF G (7 + i) 3 v = G1) (hΓ : gup Γ g G1 = Γ1) : ((zH I C Y Γ D O M ou od j).1.set (g + (7 + i)) (.inr (6, ([.long (gN G (7 + i)), .int (b2i (gB G (7 + i))), .int (gF G (7 + i) 2), .int (gF G (7 + i) 3), .int (gF G (7 + i) 4), .int (gF G (7 + i) 5), .int (gF G (7 + i) 6), .int (gF G (7 + i) 7)] : List Value).set 3 (.int v))), (zH I C Y Γ D O M ou od j).2) = zH I C Y Γ1 D O M ou od j := by
  subst hG hw
  refine zH_setG (r := 7 + i) hg (by omega) ?_ (fun r' h => wgF_ne h) hΓ
  unfold px_cg
  rw [if_neg (by omega), if_neg (by omega), if_neg (by omega), if_neg (by omega), if_neg (by omega), if_pos (by omega)]
  simp only [gF, gN, gA, gB, wgF, wgN, wgB, z2_same, z1_same]
  rfl
theorem sf_6_4 {v : Int32} (hg : isG g) (hp : i < 10) (hG : Γ g = G) (hw : wgF G (7 + i) 4 v = G1) (hΓ : gup Γ g G1 = Γ1) : ((zH I C Y Γ D O M ou od j).1.set (g + (7 + i)) (.inr (6, ([.long (gN G (7 + i)), .int (b2i (gB G (7 + i))), .int (gF G (7 + i) 2), .int (gF G (7 + i) 3), .int (gF G (7 + i) 4), .int (gF G (7 + i) 5), .int (gF G (7 + i) 6), .int (gF G (7 + i) 7)] : List Value).set 4 (.int v))), (zH I C Y Γ D O M ou od j).2) = zH I C Y Γ1 D O M ou od j := by
  subst hG hw
  refine zH_setG (r := 7 + i) hg (by omega) ?_ (fun r' h => wgF_ne h) hΓ
  unfold px_cg
  rw [if_neg (by omega), if_neg (by omega), if_neg (by omega), if_neg (by omega), if_neg (by omega), if_pos (by omega)]
  simp only [gF, gN, gA, gB, wgF, wgN, wgB, z2_same, z1_same]
  rfl
theorem sf_6_5 {v : Int32} (hg : isG g) (hp : i < 10) (hG : Γ g = G) (hw : wgF G (7 + i) 5 v = G1) (hΓ : gup Γ g G1 = Γ1) : ((zH I C Y Γ D O M ou od j).1.set (g + (7 + i)) (.inr (6, ([.long (gN G (7 + i)), .int (b2i (gB G (7 + i))), .int (gF G (7 + i) 2), .int (gF G (7 + i) 3), .int (gF G (7 + i) 4), .int (gF G (7 + i) 5), .int (gF G (7 + i) 6), .int (gF G (7 + i) 7)] : List Value).set 5 (.int v))), (zH I C Y Γ D O M ou od j).2) = zH I C Y Γ1 D O M ou od j := by
  subst hG hw
  refine zH_setG (r := 7 + i) hg (by omega) ?_ (fun r' h => wgF_ne h) hΓ
  unfold px_cg
  rw [if_neg (by omega), if_neg (by omega), if_neg (by omega), if_neg (by omega), if_neg (by omega), if_pos (by omega)]
  simp only [gF, gN, gA, gB, wgF, wgN, wgB, z2_same, z1_same]
  rfl
theorem sf_6_6 {v : Int32} (hg : isG g) (hp : i < 10) (hG : Γ g = G) (hw : wgF G (7 + i) 6 v = G1) (hΓ : gup Γ g G1 = Γ1) : ((zH I C Y Γ D O M ou od j).1.set (g + (7 + i)) (.inr (6, ([.long (gN G (7 + i)), .int (b2i (gB G (7 + i))), .int (gF G (7 + i) 2), .int (gF G (7 + i) 3), .int (gF G (7 + i) 4), .int (gF G (7 + i) 5), .int (gF G (7 + i) 6), .int (gF G (7 + i) 7)] : List Value).set 6 (.int v))), (zH I C Y Γ D O M ou od j).2) = zH I C Y Γ1 D O M ou od j := by
  subst hG hw
  refine zH_setG (r := 7 + i) hg (by omega) ?_ (fun r' h => wgF_ne h) hΓ
  unfold px_cg
  rw [if_neg (by omega), if_neg (by omega), if_neg (by omega), if_neg (by omega), if_neg (by omega), if_pos (by omega)]
  simp only [gF, gN, gA, gB, wgF, wgN, wgB, z2_same, z1_same]
  rfl
theorem sf_6_7 {v : Int32} (hg : isG g) (hp : i < 10) (hG : Γ g = G) (hw : wgF G (7 + i) 7 v = G1) (hΓ : gup Γ g G1 = Γ1) : ((zH I C Y Γ D O M ou od j).1.set (g + (7 + i)) (.inr (6, ([.long (gN G (7 + i)), .int (b2i (gB G (7 + i))), .int (gF G (7 + i) 2), .int (gF G (7 + i) 3), .int (gF G (7 + i) 4), .int (gF G (7 + i) 5), .int (gF G (7 + i) 6), .int (gF G (7 + i) 7)] : List Value).set 7 (.int v))), (zH I C Y Γ D O M ou od j).2) = zH I C Y Γ1 D O M ou od j := by
  subst hG hw
  refine zH_setG (r := 7 + i) hg (by omega) ?_ (fun r' h => wgF_ne h) hΓ
  unfold px_cg
  rw [if_neg (by omega), if_neg (by omega), if_neg (by omega), if_neg (by omega), if_neg (by omega), if_pos (by omega)]
  simp only [gF, gN, gA, gB, wgF, wgN, wgB, z2_same, z1_same]
  rfl
theorem sf_4_0 {v : Int32} (hg : isG g) (hp : i < 8) (hG : Γ g = G) (hw : wgF G (18 + i) 0 v = G1) (hΓ : gup Γ g G1 = Γ1) : ((zH I C Y Γ D O M ou od j).1.set (g + (18 + i)) (.inr (4, ([.int (gF G (18 + i) 0), .int (gF G (18 + i) 1), .int (gF G (18 + i) 2), .int (b2i (gB G (18 + i)))] : List Value).set 0 (.int v))), (zH I C Y Γ D O M ou od j).2) = zH I C Y Γ1 D O M ou od j := by
  subst hG hw
  refine zH_setG (r := 18 + i) hg (by omega) ?_ (fun r' h => wgF_ne h) hΓ
  unfold px_cg
  rw [if_neg (by omega), if_neg (by omega), if_neg (by omega), if_neg (by omega), if_neg (by omega), if_neg (by omega), if_neg (by omega)]
  simp only [gF, gN, gA, gB, wgF, wgN, wgB, z2_same, z1_same]
  rfl
theorem sf_4_1 {v : Int32} (hg : isG g) (hp : i < 8) (hG : Γ g = G) (hw : wgF G (18 + i) 1 v = G1) (hΓ : gup Γ g G1 = Γ1) : ((zH I C Y Γ D O M ou od j).1.set (g + (18 + i)) (.inr (4, ([.int (gF G (18 + i) 0), .int (gF G (18 + i) 1), .int (gF G (18 + i) 2), .int (b2i (gB G (18 + i)))] : List Value).set 1 (.int v))), (zH I C Y Γ D O M ou od j).2) = zH I C Y Γ1 D O M ou od j := by
  subst hG hw
  refine zH_setG (r := 18 + i) hg (by omega) ?_ (fun r' h => wgF_ne h) hΓ
  unfold px_cg
  rw [if_neg (by omega), if_neg (by omega), if_neg (by omega), if_neg (by omega), if_neg (by omega), if_neg (by omega), if_neg (by omega)]
  simp only [gF, gN, gA, gB, wgF, wgN, wgB, z2_same, z1_same]
  rfl
theorem sf_4_2 {v : Int32} (hg : isG g) (hp : i < 8) (hG : Γ g = G) (hw : wgF G (18 + i) 2 v = G1) (hΓ : gup Γ g G1 = Γ1) : ((zH I C Y Γ D O M ou od j).1.set (g + (18 + i)) (.inr (4, ([.int (gF G (18 + i) 0), .int (gF G (18 + i) 1), .int (gF G (18 + i) 2), .int (b2i (gB G (18 + i)))] : List Value).set 2 (.int v))), (zH I C Y Γ D O M ou od j).2) = zH I C Y Γ1 D O M ou od j := by
  subst hG hw
  refine zH_setG (r := 18 + i) hg (by omega) ?_ (fun r' h => wgF_ne h) hΓ
  unfold px_cg
  rw [if_neg (by omega), if_neg (by omega), if_neg (by omega), if_neg (by omega), if_neg (by omega), if_neg (by omega), if_neg (by omega)]
  simp only [gF, gN, gA, gB, wgF, wgN, wgB, z2_same, z1_same]
  rfl
theorem sf_4_3 {v : Bool} (hg : isG g) (hp : i < 8) (hG : Γ g = G) (hw : wgB G (18 + i) v = G1) (hΓ : gup Γ g G1 = Γ1) : ((zH I C Y Γ D O M ou od j).1.set (g + (18 + i)) (.inr (4, ([.int (gF G (18 + i) 0), .int (gF G (18 + i) 1), .int (gF G (18 + i) 2), .int (b2i (gB G (18 + i)))] : List Value).set 3 (.int (b2i v)))), (zH I C Y Γ D O M ou od j).2) = zH I C Y Γ1 D O M ou od j := by
  subst hG hw
  refine zH_setG (r := 18 + i) hg (by omega) ?_ (fun r' h => wgB_ne h) hΓ
  unfold px_cg
  rw [if_neg (by omega), if_neg (by omega), if_neg (by omega), if_neg (by omega), if_neg (by omega), if_neg (by omega), if_neg (by omega)]
  simp only [gF, gN, gA, gB, wgF, wgN, wgB, z2_same, z1_same]
  rfl
theorem sa_g2 {A : Nat → Int32} (hg : isG g) (hG : Γ g = G) (hw : wgA G 2 A = G1) (hΓ : gup Γ g G1 = Γ1) : ((zH I C Y Γ D O M ou od j).1.set (g + 2) (.inl (0, 12, .inl A)), (zH I C Y Γ D O M ou od j).2) = zH I C Y Γ1 D O M ou od j := by
  subst hG hw
  exact zH_setG (r := 2) hg (by omega) rfl (fun r' h => wgA_ne h) hΓ
theorem sa_g3 {A : Nat → Int32} (hg : isG g) (hG : Γ g = G) (hw : wgA G 3 A = G1) (hΓ : gup Γ g G1 = Γ1) : ((zH I C Y Γ D O M ou od j).1.set (g + 3) (.inl (0, 12, .inl A)), (zH I C Y Γ D O M ou od j).2) = zH I C Y Γ1 D O M ou od j := by
  subst hG hw
  exact zH_setG (r := 3) hg (by omega) rfl (fun r' h => wgA_ne h) hΓ
theorem sa_g4 {A : Nat → Int32} (hg : isG g) (hG : Γ g = G) (hw : wgA G 4 A = G1) (hΓ : gup Γ g G1 = Γ1) : ((zH I C Y Γ D O M ou od j).1.set (g + 4) (.inl (0, 12, .inl A)), (zH I C Y Γ D O M ou od j).2) = zH I C Y Γ1 D O M ou od j := by
  subst hG hw
  exact zH_setG (r := 4) hg (by omega) rfl (fun r' h => wgA_ne h) hΓ
theorem sa_g5 {A : Nat → Int32} (hg : isG g) (hG : Γ g = G) (hw : wgA G 5 A = G1) (hΓ : gup Γ g G1 = Γ1) : ((zH I C Y Γ D O M ou od j).1.set (g + 5) (.inl (0, 9, .inl A)), (zH I C Y Γ D O M ou od j).2) = zH I C Y Γ1 D O M ou od j := by
  subst hG hw
  exact zH_setG (r := 5) hg (by omega) rfl (fun r' h => wgA_ne h) hΓ
/-- cells that don't speak of a component -/
theorem cell0 {a b : Nat} (ha : a < 10) (hne : b ≠ a) (h0 : b < 10 → px_cl0 I1 C1 D1 b = px_cl0 I C D b) : px_cell I1 C1 Y Γ D1 O M ou od b = px_cell I C Y Γ D O M ou od b := by
  unfold px_cell
  by_cases c1 : b < 10
  · rw [if_pos c1, if_pos c1, h0 c1]
  · rw [if_neg c1, if_neg c1]
theorem cellM {a b : Nat} (ha : 246 ≤ a) (hb : b < 263) (h0 : 246 ≤ b → px_cm O1 M1 ou1 od1 b = px_cm O M ou od b) : px_cell I C Y Γ D O1 M1 ou1 od1 b = px_cell I C Y Γ D O M ou od b := by
  unfold px_cell
  by_cases c1 : b < 10
  · rw [if_pos c1, if_pos c1]
  rw [if_neg c1, if_neg c1]
  by_cases c2 : b < 88
  · rw [if_pos c2, if_pos c2]
  rw [if_neg c2, if_neg c2]
  by_cases c3 : b < 90
  · rw [if_pos c3, if_pos c3]
  rw [if_neg c3, if_neg c3]
  by_cases c4 : b < 246
  · rw [if_pos c4, if_pos c4]
  rw [if_neg c4, if_neg c4, h0 (by omega)]
theorem sf_7_5 {v : Bool} (hw : (v, D.2) = D1) : ((zH I C Y Γ D O M ou od j).1.set 0 (.inr (7, ([.ref 1, .ref 3, .ref 10, .ref 36, .ref 62, .int (b2i D.1), .ref 88, .ref 246, .int D.2] : List Value).set 5 (.int (b2i v)))), (zH I C Y Γ D O M ou od j).2) = zH I C Y Γ D1 O M ou od j := by
  subst hw
  refine zH_set (by decide) rfl (fun b hb hne => cell0 (a := 0) (by decide) hne (fun h => ?_))
  match b, h, hne with
  | 0, _, hne => exact absurd rfl hne
  | 1, _, _ => rfl
  | 2, _, _ => rfl
  | 3, _, _ => rfl
  | 4, _, _ => rfl
  | 5, _, _ => rfl
  | 6, _, _ => rfl
  | 7, _, _ => rfl
  | 8, _, _ => rfl
  | 9, _, _ => rfl
  | n + 10, h, _ => exact absurd h (by omega)
theorem sf_7_8 {v : Int32} (hw : (D.1, v) = D1) : ((zH I C Y Γ D O M ou od j).1.set 0 (.inr (7, ([.ref 1, .ref 3, .ref 10, .ref 36, .ref 62, .int (b2i D.1), .ref 88, .ref 246, .int D.2] : List Value).set 8 (.int v))), (zH I C Y Γ D O M ou od j).2) = zH I C Y Γ D1 O M ou od j := by
  subst hw
  refine zH_set (by decide) rfl (fun b hb hne => cell0 (a := 0) (by decide) hne (fun h => ?_))
  match b, h, hne with
  | 0, _, hne => exact absurd rfl hne
  | 1, _, _ => rfl
  | 2, _, _ => rfl
  | 3, _, _ => rfl
  | 4, _, _ => rfl
  | 5, _, _ => rfl
  | 6, _, _ => rfl
  | 7, _, _ => rfl
  | 8, _, _ => rfl
  | 9, _, _ => rfl
  | n + 10, h, _ => exact absurd h (by omega)
theorem sf_3_1 {v : Int32} (hw : wiF I 1 v = I1) : ((zH I C Y Γ D O M ou od j).1.set 1 (.inr (3, ([.ref 2, .int (iF I 1), .int (iF I 2), .int (iF I 3), .int (iF I 4), .long (iN I), .int (iF I 6), .int (iF I 7), .int (iF I 8), .int (iF I 9)] : List Value).set 1 (.int v))), (zH I C Y Γ D O M ou od j).2) = zH I1 C Y Γ D O M ou od j := by
  subst hw
  refine zH_set (by decide) rfl (fun b hb hne => cell0 (a := 1) (by decide) hne (fun h => ?_))
  match b, h, hne with
  | 0, _, _ => rfl
  | 1, _, hne => exact absurd rfl hne
  | 2, _, _ => rfl
  | 3, _, _ => rfl
  | 4, _, _ => rfl
  | 5, _, _ => rfl
  | 6, _, _ => rfl
  | 7, _, _ => rfl
  | 8, _, _ => rfl
  | 9, _, _ => rfl
  | n + 10, h, _ => exact absurd h (by omega)
theorem sf_3_2 {v : Int32} (hw : wiF I 2 v = I1) : ((zH I C Y Γ D O M ou od j).1.set 1 (.inr (3, ([.ref 2, .int (iF I 1), .int (iF I 2), .int (iF I 3), .int (iF I 4), .long (iN I), .int (iF I 6), .int (iF I 7), .int (iF I 8), .int (iF I 9)] : List Value).set 2 (.int v))), (zH I C Y Γ D O M ou od j).2) = zH I1 C Y Γ D O M ou od j := by
  subst hw
  refine zH_set (by decide) rfl (fun b hb hne => cell0 (a := 1) (by decide) hne (fun h => ?_))
  match b, h, hne with
  | 0, _, _ => rfl
  | 1, _, hne => exact absurd rfl hne
  | 2, _, _ => rfl
  | 3, _, _ => rfl
  | 4, _, _ => rfl
  | 5, _, _ => rfl
  | 6, _, _ => rfl
  | 7, _, _ => rfl
  | 8, _, _ => rfl
  | 9, _, _ => rfl
  | n + 10, h, _ => exact absurd h (by omega)
theorem sf_3_3 {v : Int32} (hw : wiF I 3 v = I1) : ((zH I C Y Γ D O M ou od j).1.set 1 (.inr (3, ([.ref 2, .int (iF I 1), .int (iF I 2), .int (iF I 3), .int (iF I 4), .long (iN I), .int (iF I 6), .int (iF I 7), .int (iF I 8), .int (iF I 9)] : List Value).set 3 (.int v))), (zH I C Y Γ D O M ou od j).2) = zH I1 C Y Γ D O M ou od j := by
  subst hw
  refine zH_set (by decide) rfl (fun b hb hne => cell0 (a := 1) (by decide) hne (fun h => ?_))
  match b, h, hne with
  | 0, _, _ => rfl
  | 1, _, hne => exact absurd rfl hne
  | 2, _, _ => rfl
  | 3, _, _ => rfl
  | 4, _, _ => rfl
  | 5, _, _ => rfl
  | 6, _, _ => rfl
  | 7, _, _ => rfl
  | 8, _, _ => rfl
  | 9, _, _ => rfl
  | n + 10, h, _ => exact absurd h (by omega)
theorem sf_3_4 {v : Int32} (hw : wiF I 4 v = I1) : ((zH I C Y Γ D O M ou od j).1.set 1 (.inr (3, ([.ref 2, .int (iF I 1), .int (iF I 2), .int (iF I 3), .int (iF I 4), .long (iN I), .int (iF I 6), .int (iF I 7), .int (iF I 8), .int (iF I 9)] : List Value).set 4 (.int v))), (zH I C Y Γ D O M ou od j).2) = zH I1 C Y Γ D O M ou od j := by
  subst hw
  refine zH_set (by decide) rfl (fun b hb hne => cell0 (a := 1) (by decide) hne (fun h => ?_))
  match b, h, hne with
  | 0, _, _ => rfl
  | 1, _, hne => exact absurd rfl hne
  | 2, _, _ => rfl
  | 3, _, _ => rfl
  | 4, _, _ => rfl
  | 5, _, _ => rfl
  | 6, _, _ => rfl
  | 7, _, _ => rfl
  | 8, _, _ => rfl
  | 9, _, _ => rfl
  | n + 10, h, _ => exact absurd h (by omega)
theorem sf_3_6 {v : Int32} (hw : wiF I 6 v = I1) : ((zH I C Y Γ D O M ou od j).1.set 1 (.inr (3, ([.ref 2, .int (iF I 1), .int (iF I 2), .int (iF I 3), .int (iF I 4), .long (iN I), .int (iF I 6), .int (iF I 7), .int (iF I 8), .int (iF I 9)] : List Value).set 6 (.int v))), (zH I C Y Γ D O M ou od j).2) = zH I1 C Y Γ D O M ou od j := by
  subst hw
  refine zH_set (by decide) rfl (fun b hb hne => cell0 (a := 1) (by decide) hne (fun h => ?_))
  match b, h, hne with
  | 0, _, _ => rfl
  | 1, _, hne => exact absurd rfl hne
  | 2, _, _ => rfl
  | 3, _, _ => rfl
  | 4, _, _ => rfl
  | 5, _, _ => rfl
  | 6, _, _ => rfl
  | 7, _, _ => rfl
  | 8, _, _ => rfl
  | 9, _, _ => rfl
  | n + 10, h, _ => exact absurd h (by omega)
theorem sf_3_7 {v : Int32} (hw : wiF I 7 v = I1) : ((zH I C Y Γ D O M ou od j).1.set 1 (.inr (3, ([.ref 2, .int (iF I 1), .int (iF I 2), .int (iF I 3), .int (iF I 4), .long (iN I), .int (iF I 6), .int (iF I 7), .int (iF I 8), .int (iF I 9)] : List Value).set 7 (.int v))), (zH I C Y Γ D O M ou od j).2) = zH I1 C Y Γ D O M ou od j := by
  subst hw
  refine zH_set (by decide) rfl (fun b hb hne => cell0 (a := 1) (by decide) hne (fun h => ?_))
  match b, h, hne with
  | 0, _, _ => rfl
  | 1, _, hne => exact absurd rfl hne
  | 2, _, _ => rfl
  | 3, _, _ => rfl
  | 4, _, _ => rfl
  | 5, _, _ => rfl
  | 6, _, _ => rfl
  | 7, _, _ => rfl
  | 8, _, _ => rfl
  | 9, _, _ => rfl
  | n + 10, h, _ => exact absurd h (by omega)
theorem sf_3_8 {v : Int32} (hw : wiF I 8 v = I1) : ((zH I C Y Γ D O M ou od j).1.set 1 (.inr (3, ([.ref 2, .int (iF I 1), .int (iF I 2), .int (iF I 3), .int (iF I 4), .long (iN I), .int (iF I 6), .int (iF I 7), .int (iF I 8), .int (iF I 9)] : List Value).set 8 (.int v))), (zH I C Y Γ D O M ou od j).2) = zH I1 C Y Γ D O M ou od j := by
  subst hw
  refine zH_set (by decide) rfl (fun b hb hne => cell0 (a := 1) (by decide) hne (fun h => ?_))
  match b, h, hne with
  | 0, _, _ => rfl
  | 1, _, hne => exact absurd rfl hne
  | 2, _, _ => rfl
  | 3, _, _ => rfl
  | 4, _, _ => rfl
  | 5, _, _ => rfl
  | 6, _, _ => rfl
  | 7, _, _ => rfl
  | 8, _, _ => rfl
  | 9, _, _ => rfl
  | n + 10, h, _ => exact absurd h (by omega)
theorem sf_3_9 {v : Int32} (hw : wiF I 9 v = I1) : ((zH I C Y Γ D O M ou od j).1.set 1 (.inr (3, ([.ref 2, .int (iF I 1), .int (iF I 2), .int (iF I 3), .int (iF I 4), .long (iN I), .int (iF I 6), .int (iF I 7), .int (iF I 8), .int (iF I 9)] : List Value).set 9 (.int v))), (zH I C Y Γ D O M ou od j).2) = zH I1 C Y Γ D O M ou od j := by
  subst hw
  refine zH_set (by decide) rfl (fun b hb hne => cell0 (a := 1) (by decide) hne (fun h => ?_))
  match b, h, hne with
  | 0, _, _ => rfl
  | 1, _, hne => exact absurd rfl hne
  | 2, _, _ => rfl
  | 3, _, _ => rfl
  | 4, _, _ => rfl
  | 5, _, _ => rfl
  | 6, _, _ => rfl
  | 7, _, _ => rfl
  | 8, _, _ => rfl
  | 9, _, _ => rfl
  | n + 10, h, _ => exact absurd h (by omega)
theorem sf_3_5 {v : Int64} (hw : wiN I v = I1) : ((zH I C Y Γ D O M ou od j).1.set 1 (.inr (3, ([.ref 2, .int (iF I 1), .int (iF I 2), .int (iF I 3), .int (iF I 4), .long (iN I), .int (iF I 6), .int (iF I 7), .int (iF I 8), .int (iF I 9)] : List Value).set 5 (.long v))), (zH I C Y Γ D O M ou od j).2) = zH I1 C Y Γ D O M ou od j := by
  subst hw
  refine zH_set (by decide) rfl (fun b hb hne => cell0 (a := 1) (by decide) hne (fun h => ?_))
  match b, h, hne with
  | 0, _, _ => rfl
  | 1, _, hne => exact absurd rfl hne
  | 2, _, _ => rfl
  | 3, _, _ => rfl
  | 4, _, _ => rfl
  | 5, _, _ => rfl
  | 6, _, _ => rfl
  | 7, _, _ => rfl
  | 8, _, _ => rfl
  | 9, _, _ => rfl
  | n + 10, h, _ => exact absurd h (by omega)
theorem sa_i {A : Nat → Int32} (hw : wiA I A = I1) : ((zH I C Y Γ D O M ou od j).1.set 2 (.inl (1, 600, .inl A)), (zH I C Y Γ D O M ou od j).2) = zH I1 C Y Γ D O M ou od j := by
  subst hw
  refine zH_set (by decide) rfl (fun b hb hne => cell0 (a := 2) (by decide) hne (fun h => ?_))
  match b, h, hne with
  | 0, _, _ => rfl
  | 1, _, _ => rfl
  | 2, _, hne => exact absurd rfl hne
  | 3, _, _ => rfl
  | 4, _, _ => rfl
  | 5, _, _ => rfl
  | 6, _, _ => rfl
  | 7, _, _ => rfl
  | 8, _, _ => rfl
  | 9, _, _ => rfl
  | n + 10, h, _ => exact absurd h (by omega)
theorem sf_5_0 {v : Int32} (hw : wsF C 0 v = C1) : ((zH I C Y Γ D O M ou od j).1.set 3 (.inr (5, ([.int (sF C 0), .int (sF C 1), .ref 4, .ref 5, .ref 6, .ref 7, .int (sF C 6), .ref 8, .ref 9] : List Value).set 0 (.int v))), (zH I C Y Γ D O M ou od j).2) = zH I C1 Y Γ D O M ou od j := by
  subst hw
  refine zH_set (by decide) rfl (fun b hb hne => cell0 (a := 3) (by decide) hne (fun h => ?_))
  match b, h, hne with
  | 0, _, _ => rfl
  | 1, _, _ => rfl
  | 2, _, _ => rfl
  | 3, _, hne => exact absurd rfl hne
  | 4, _, _ => rfl
  | 5, _, _ => rfl
  | 6, _, _ => rfl
  | 7, _, _ => rfl
  | 8, _, _ => rfl
  | 9, _, _ => rfl
  | n + 10, h, _ => exact absurd h (by omega)
theorem sf_5_1 {v : Int32} (hw : wsF C 1 v = C1) : ((zH I C Y Γ D O M ou od j).1.set 3 (.inr (5, ([.int (sF C 0), .int (sF C 1), .ref 4, .ref 5, .ref 6, .ref 7, .int (sF C 6), .ref 8, .ref 9] : List Value).set 1 (.int v))), (zH I C Y Γ D O M ou od j).2) = zH I C1 Y Γ D O M ou od j := by
  subst hw
  refine zH_set (by decide) rfl (fun b hb hne => cell0 (a := 3) (by decide) hne (fun h => ?_))
  match b, h, hne with
  | 0, _, _ => rfl
  | 1, _, _ => rfl
  | 2, _, _ => rfl
  | 3, _, hne => exact absurd rfl hne
  | 4, _, _ => rfl
  | 5, _, _ => rfl
  | 6, _, _ => rfl
  | 7, _, _ => rfl
  | 8, _, _ => rfl
  | 9, _, _ => rfl
  | n + 10, h, _ => exact absurd h (by omega)
theorem sf_5_6 {v : Int32} (hw : wsF C 6 v = C1) : ((zH I C Y Γ D O M ou od j).1.set 3 (.inr (5, ([.int (sF C 0), .int (sF C 1), .ref 4, .ref 5, .ref 6, .ref 7, .int (sF C 6), .ref 8, .ref 9] : List Value).set 6 (.int v))), (zH I C Y Γ D O M ou od j).2) = zH I C1 Y Γ D O M ou od j := by
  subst hw
  refine zH_set (by decide) rfl (fun b hb hne => cell0 (a := 3) (by decide) hne (fun h => ?_))
  match b, h, hne with
  | 0, _, _ => rfl
  | 1, _, _ => rfl
  | 2, _, _ => rfl
  | 3, _, hne => exact absurd rfl hne
  | 4, _, _ => rfl
  | 5, _, _ => rfl
  | 6, _, _ => rfl
  | 7, _, _ => rfl
  | 8, _, _ => rfl
  | 9, _, _ => rfl
  | n + 10, h, _ => exact absurd h (by omega)
theorem sa_s2 {A : Nat → Int32} (hw : wsA C 2 A = C1) : ((zH I C Y Γ D O M ou od j).1.set 4 (.inl (0, 40, .inl A)), (zH I C Y Γ D O M ou od j).2) = zH I C1 Y Γ D O M ou od j := by
  subst hw
  refine zH_set (by decide) rfl (fun b hb hne => cell0 (a := 4) (by decide) hne (fun h => ?_))
  match b, h, hne with
  | 0, _, _ => rfl
  | 1, _, _ => rfl
  | 2, _, _ => rfl
  | 3, _, _ => rfl
  | 4, _, hne => exact absurd rfl hne
  | 5, _, _ => rfl
  | 6, _, _ => rfl
  | 7, _, _ => rfl
  | 8, _, _ => rfl
  | 9, _, _ => rfl
  | n + 10, h, _ => exact absurd h (by omega)
theorem sa_s3 {A : Nat → Int32} (hw : wsA C 3 A = C1) : ((zH I C Y Γ D O M ou od j).1.set 5 (.inl (0, 40, .inl A)), (zH I C Y Γ D O M ou od j).2) = zH I C1 Y Γ D O M ou od j := by
  subst hw
  refine zH_set (by decide) rfl (fun b hb hne => cell0 (a := 5) (by decide) hne (fun h => ?_))
  match b, h, hne with
  | 0, _, _ => rfl
  | 1, _, _ => rfl
  | 2, _, _ => rfl
  | 3, _, _ => rfl
  | 4, _, _ => rfl
  | 5, _, hne => exact absurd rfl hne
  | 6, _, _ => rfl
  | 7, _, _ => rfl
  | 8, _, _ => rfl
  | 9, _, _ => rfl
  | n + 10, h, _ => exact absurd h (by omega)
theorem sa_s4 {A : Nat → Int32} (hw : wsA C 4 A = C1) : ((zH I C Y Γ D O M ou od j).1.set 6 (.inl (0, 40, .inl A)), (zH I C Y Γ D O M ou od j).2) = zH I C1 Y Γ D O M ou od j := by
  subst hw
  refine zH_set (by decide) rfl (fun b hb hne => cell0 (a := 6) (by decide) hne (fun h => ?_))
  match b, h, hne with
  | 0, _, _ => rfl
  | 1, _, _ => rfl
  | 2, _, _ => rfl
  | 3, _, _ => rfl
  | 4, _, _ => rfl
  | 5, _, _ => rfl
  | 6, _, hne => exact absurd rfl hne
  | 7, _, _ => rfl
  | 8, _, _ => rfl
  | 9, _, _ => rfl
  | n + 10, h, _ => exact absurd h (by omega)
theorem sa_s5 {A : Nat → Int32} (hw : wsA C 5 A = C1) : ((zH I C Y Γ D O M ou od j).1.set 7 (.inl (0, 40, .inl A)), (zH I C Y Γ D O M ou od j).2) = zH I C1 Y Γ D O M ou od j := by
  subst hw
  refine zH_set (by decide) rfl (fun b hb hne => cell0 (a := 7) (by decide) hne (fun h => ?_))
  match b, h, hne with
  | 0, _, _ => rfl
  | 1, _, _ => rfl
  | 2, _, _ => rfl
  | 3, _, _ => rfl
  | 4, _, _ => rfl
  | 5, _, _ => rfl
  | 6, _, _ => rfl
  | 7, _, hne => exact absurd rfl hne
  | 8, _, _ => rfl
  | 9, _, _ => rfl
  | n + 10, h, _ => exact absurd h (by omega)
theorem sa_s7 {A : Nat → Int32} (hw : wsA C 7 A = C1) : ((zH I C Y Γ D O M ou od j).1.set 8 (.inl (0, 2, .inl A)), (zH I C Y Γ D O M ou od j).2) = zH I C1 Y Γ D O M ou od j := by
  subst hw
  refine zH_set (by decide) rfl (fun b hb hne => cell0 (a := 8) (by decide) hne (fun h => ?_))
  match b, h, hne with
  | 0, _, _ => rfl
  | 1, _, _ => rfl
  | 2, _, _ => rfl
  | 3, _, _ => rfl
  | 4, _, _ => rfl
  | 5, _, _ => rfl
  | 6, _, _ => rfl
  | 7, _, _ => rfl
  | 8, _, hne => exact absurd rfl hne
  | 9, _, _ => rfl
  | n + 10, h, _ => exact absurd h (by omega)
theorem sa_s8 {A : Nat → Int32} (hw : wsA C 8 A = C1) : ((zH I C Y Γ D O M ou od j).1.set 9 (.inl (0, 2, .inl A)), (zH I C Y Γ D O M ou od j).2) = zH I C1 Y Γ D O M ou od j := by
  subst hw
  refine zH_set (by decide) rfl (fun b hb hne => cell0 (a := 9) (by decide) hne (fun h => ?_))
  match b, h, hne with
  | 0, _, _ => rfl
  | 1, _, _ => rfl
  | 2, _, _ => rfl
  | 3, _, _ => rfl
  | 4, _, _ => rfl
  | 5, _, _ => rfl
  | 6, _, _ => rfl
  | 7, _, _ => rfl
  | 8, _, _ => rfl
  | 9, _, hne => exact absurd rfl hne
  | n + 10, h, _ => exact absurd h (by omega)
theorem sf_2_0 {v : Int32} (hw : z1 Y 0 v = Y1) : ((zH I C Y Γ D O M ou od j).1.set 88 (.inr (2, ([.int (Y 0), .int (Y 1), .ref 89] : List Value).set 0 (.int v))), (zH I C Y Γ D O M ou od j).2) = zH I C Y1 Γ D O M ou od j := by
  subst hw
  refine zH_set (by decide) rfl (fun b hb hne => ?_)
  unfold px_cell px_ch
  rw [if_neg hne, if_neg hne]
theorem sf_2_1 {v : Int32} (hw : z1 Y 1 v = Y1) : ((zH I C Y Γ D O M ou od j).1.set 88 (.inr (2, ([.int (Y 0), .int (Y 1), .ref 89] : List Value).set 1 (.int v))), (zH I C Y Γ D O M ou od j).2) = zH I C Y1 Γ D O M ou od j := by
  subst hw
  refine zH_set (by decide) rfl (fun b hb hne => ?_)
  unfold px_cell px_ch
  rw [if_neg hne, if_neg hne]
theorem sa_o {A : Nat → Int32} (hw : A = O1) : ((zH I C Y Γ D O M ou od j).1.set 246 (.inl (1, 37, .inl A)), (zH I C Y Γ D O M ou od j).2) = zH I C Y Γ D O1 M ou od j := by
  subst hw
  refine zH_set (by decide) rfl (fun b hb hne => cellM (a := 246) (by decide) hb (fun h => ?_))
  unfold px_cm
  rw [if_neg hne, if_neg hne]
theorem sf_8_0 {v : Int32} (hw : wmF M 0 v = M1) : ((zH I C Y Γ D O M ou od j).1.set 247 (.inr (8, ([.int (mF M 0), .ref 248, .int (mF M 2), .int (mF M 3), .int (mF M 4), .int (mF M 5), .int (mF M 6), .int (mF M 7), .int (mF M 8), .int (mF M 9), .int (mF M 10), .int (mF M 11), .long (mN M), .ref 249, .ref 250, .ref 251, .ref 252, .ref 253, .int (mF M 18), .int (b2i (mB M)), .ref 254, .ref 255, .ref 256, .ref 257, .ref 258, .ref 259, .int (mF M 26), .int (mF M 27), .int (mF M 28), .int (mF M 29), .ref 260, .int (mF M 31)] : List Value).set 0 (.int v))), (zH I C Y Γ D O M ou od j).2) = zH I C Y Γ D O M1 ou od j := by
  subst hw
  refine zH_set (by decide) rfl (fun b hb hne => cellM (a := 247) (by decide) hb (fun h => ?_))
  unfold px_cm
  rw [if_neg hne, if_neg hne]
  rfl
theorem sf_8_2 {v : Int32} (hw : wmF M 2 v = M1) : ((zH I C Y Γ D O M ou od j).1.set 247 (.inr (8, ([.int (mF M 0), .ref 248, .int (mF M 2), .int (mF M 3), .int (mF M 4), .int (mF M 5), .int (mF M 6), .int (mF M 7), .int (mF M 8), .int (mF M 9), .int (mF M 10), .int (mF M 11), .long (mN M), .ref 249, .ref 250, .ref 251, .ref 252, .ref 253, .int (mF M 18), .int (b2i (mB M)), .ref 254, .ref 255, .ref 256, .ref 257, .ref 258, .ref 259, .int (mF M 26), .int (mF M 27), .int (mF M 28), .int (mF M 29), .ref 260, .int (mF M 31)] : List Value).set 2 (.int v))), (zH I C Y Γ D O M ou od j).2) = zH I C Y Γ D O M1 ou od j := by
  subst hw
  refine zH_set (by decide) rfl (fun b hb hne => cellM (a := 247) (by decide) hb (fun h => ?_))
  unfold px_cm
  rw [if_neg hne, if_neg hne]
  rfl
theorem sf_8_3 {v : Int32} (hw : wmF M 3 v = M1) : ((zH I C Y Γ D O M ou od j).1.set 247 (.inr (8, ([.int (mF M 0), .ref 248, .int (mF M 2), .int (mF M 3), .int (mF M 4), .int (mF M 5), .int (mF M 6), .int (mF M 7), .int (mF M 8), .int (mF M 9), .int (mF M 10), .int (mF M 11), .long (mN M), .ref 249, .ref 250, .ref 251, .ref 252, .ref 253, .int (mF M 18), .int (b2i (mB M)), .ref 254, .ref 255, .ref 256, .ref 257, .ref 258, .ref 259, .int (mF M 26), .int (mF M 27), .int (mF M 28), .int (mF M 29), .ref 260, .int (mF M 31)] : List Value).set 3 (.int v))), (zH I C Y Γ D O M ou od j).2) = zH I C Y Γ D O M1 ou od j := by
  subst hw
  refine zH_set (by decide) rfl (fun b hb hne => cellM (a := 247) (by decide) hb (fun h => ?_))
  unfold px_cm
  rw [if_neg hne, if_neg hne]
  rfl
theorem sf_8_4 {v : Int32} (hw : wmF M 4 v = M1) : ((zH I C Y Γ D O M ou od j).1.set 247 (.inr (8, ([.int (mF M 0), .ref 248, .int (mF M 2), .int (mF M 3), .int (mF M 4), .int (mF M 5), .int (mF M 6), .int (mF M 7), .int (mF M 8), .int (mF M 9), .int (mF M 10), .int (mF M 11), .long (mN M), .ref 249, .ref 250, .ref 251, .ref 252, .ref 253, .int (mF M 18), .int (b2i (mB M)), .ref 254, .ref 255, .ref 256, .ref 257, .ref 258, .ref 259, .int (mF M 26), .int (mF M 27), .int (mF M 28), .int (mF M 29), .ref 260, .int (mF M 31)] : List Value).set 4 (.int v))), (zH I C Y Γ D O M ou od j).2) = zH I C Y Γ D O M1 ou od j := by
  subst hw
  refine zH_set (by decide) rfl (fun b hb hne => cellM (a := 247) (by decide) hb (fun h => ?_))
  unfold px_cm
  rw [if_neg hne, if_neg hne]
  rfl
theorem sf_8_5 {v : Int32} (hw : wmF M 5 v = M1) : ((zH I C Y Γ D O M ou od j).1.set 247 (.inr (8, ([.int (mF M 0), .ref 248, .int (mF M 2), .int (mF M 3), .int (mF M 4), .int (mF M 5), .int (mF M 6), .int (mF M 7), .int (mF M 8), .int (mF M 9), .int (mF M 10), .int (mF M 11), .long (mN M), .ref 249, .ref 250, .ref 251, .ref 252, .ref 253, .int (mF M 18), .int (b2i (mB M)), .ref 254, .ref 255, .ref 256, .ref 257, .ref 258, .ref 259, .int (mF M 26), .int (mF M 27), .int (mF M 28), .int (mF M 29), .ref 260, .int (mF M 31)] : List Value).set 5 (.int v))), (zH I C Y Γ D O M ou od j).2) = zH I C Y Γ D O M1 ou od j := by
  subst hw
  refine zH_set (by decide) rfl (fun b hb hne => cellM (a := 247) (by decide) hb (fun h => ?_))
  unfold px_cm
  rw [if_neg hne, if_neg hne]
  rfl
theorem sf_8_6 {v : Int32} (hw : wmF M 6 v = M1) : ((zH I C Y Γ D O M ou od j).1.set 247 (.inr (8, ([.int (mF M 0), .ref 248, .int (mF M 2), .int (mF M 3), .int (mF M 4), .int (mF M 5), .int (mF M 6), .int (mF M 7), .int (mF M 8), .int (mF M 9), .int (mF M 10), .int (mF M 11), .long (mN M), .ref 249, .ref 250, .ref 251, .ref 252, .ref 253, .int (mF M 18), .int (b2i (mB M)), .ref 254, .ref 255, .ref 256, .ref 257, .ref 258, .ref 259, .int (mF M 26), .int (mF M 27), .int (mF M 28), .int (mF M 29), .ref 260, .int (mF M 31)] : List Value).set 6 (.int v))), (zH I C Y Γ D O M ou od j).2) = zH I C Y Γ D O M1 ou od j := by
  subst hw
  refine zH_set (by decide) rfl (fun b hb hne => cellM (a := 247) (by decide) hb (fun h => ?_))
  unfold px_cm
  rw [if_neg hne, if_neg hne]
  rfl
theorem sf_8_7 {v : Int32} (hw : wmF M 7 v = M1) : ((zH I C Y Γ D O M ou od j).1.set 247 (.inr (8, ([.int (mF M 0), .ref 248, .int (mF M 2), .int (mF M 3), .int (mF M 4), .int (mF M 5), .int (mF M 6), .int (mF M 7), .int (mF M 8), .int (mF M 9), .int (mF M 10), .int (mF M 11), .long (mN M), .ref 249, .ref 250, .ref 251, .ref 252, .ref 253, .int (mF M 18), .int (b2i (mB M)), .ref 254, .ref 255, .ref 256, .ref 257, .ref 258, .ref 259, .int (mF M 26), .int (mF M 27), .int (mF M 28), .int (mF M 29), .ref 260, .int (mF M 31)] : List Value).set 7 (.int v))), (zH I C Y Γ D O M ou od j).2) = zH I C Y Γ D O M1 ou od j := by
  subst hw
  refine zH_set (by decide) rfl (fun b hb hne => cellM (a := 247) (by decide) hb (fun h => ?_))
  unfold px_cm
  rw [if_neg hne, if_neg hne]
  rfl
theorem sf_8_8 {v : Int32} (hw : wmF M 8 v = M1) : ((zH I C Y Γ D O M ou od j).1.set 247 (.inr (8, ([.int (mF M 0), .ref 248, .int (mF M 2), .int (mF M 3), .int (mF M 4), .int (mF M 5), .int (mF M 6), .int (mF M 7), .int (mF M 8), .int (mF M 9), .int (mF M 10), .int (mF M 11), .long (mN M), .ref 249, .ref 250, .ref 251, .ref 252, .ref 253, .int (mF M 18), .int (b2i (mB M)), .ref 254, .ref 255, .ref 256, .ref 257, .ref 258, .ref 259, .int (mF M 26), .int (mF M 27), .int (mF M 28), .int (mF M 29), .ref 260, .int (mF M 31)] : List Value).set 8 (.int v))), (zH I C Y Γ D O M ou od j).2) = zH I C Y Γ D O M1 ou od j := by
  subst hw
  refine zH_set (by decide) rfl (fun b hb hne => cellM (a := 247) (by decide) hb (fun h => ?_))
  unfold px_cm
  rw [if_neg hne, if_neg hne]
  rfl
theorem sf_8_9 {v : Int32} (hw : wmF M 9 v = M1) : ((zH I C Y Γ D O M ou od j).1.set 247 (.inr (8, ([.int (mF M 0), .ref 248, .int (mF M 2), .int (mF M 3), .int (mF M 4), .int (mF M 5), .int (mF M 6), .int (mF M 7), .int (mF M 8), .int (mF M 9), .int (mF M 10), .int (mF M 11), .long (mN M), .ref 249, .ref 250, .ref 251, .ref 252, .ref 253, .int (mF M 18), .int (b2i (mB M)), .ref 254, .ref 255, .ref 256, .ref 257, .ref 258, .ref 259, .int (mF M 26), .int (mF M 27), .int (mF M 28), .int (mF M 29), .ref 260, .int (mF M 31)] : List Value).set 9 (.int v))), (zH I C Y Γ D O M ou od j).2) = zH I C Y Γ D O M1 ou od j := by
  subst hw
  refine zH_set (by decide) rfl (fun b hb hne => cellM (a := 247) (by decide) hb (fun h => ?_))
  unfold px_cm
  rw [if_neg hne, if_neg hne]
  rfl
theorem sf_8_10 {v : Int32} (hw : wmF M 10 v = M1) : ((zH I C Y Γ D O M ou od j).1.set 247 (.inr (8, ([.int (mF M 0), .ref 248, .int (mF M 2), .int (mF M 3), .int (mF M 4), .int (mF M 5), .int (mF M 6), .int (mF M 7), .int (mF M 8), .int (mF M 9), .int (mF M 10), .int (mF M 11), .long (mN M), .ref 249, .ref 250, .ref 251, .ref 252, .ref 253, .int (mF M 18), .int (b2i (mB M)), .ref 254, .ref 255, .ref 256, .ref 257, .ref 258, .ref 259, .int (mF M 26), .int (mF M 27), .int (mF M 28), .int (mF M 29), .ref 260, .int (mF M 31)] : List Value).set 10 (.int v))), (zH I C Y Γ D O M ou od j).2) = zH I C Y Γ D O M1 ou od j := by
  subst hw
  refine zH_set (by decide) rfl (fun b hb hne => cellM (a := 247) (by decide) hb (fun h => ?_))
  unfold px_cm
  rw [if_neg hne, if_neg hne]
  rfl
theorem sf_8_11 {v : Int32} (hw : wmF M 11 v = M1) : ((zH I C Y Γ D O M ou od j).1.set 247 (.inr (8, ([.int (mF M 0), .ref 248, .int (mF M 2), .int (mF M 3), .int (mF M 4), .int (mF M 5), .int (mF M 6), .int (mF M 7), .int (mF M 8), .int (mF M 9), .int (mF M 10), .int (mF M 11), .long (mN M), .ref 249, .ref 250, .ref 251, .ref 252, .ref 253, .int (mF M 18), .int (b2i (mB M)), .ref 254, .ref 255, .ref 256, .ref 257, .ref 258, .ref 259, .int (mF M 26), .int (mF M 27), .int (mF M 28), .int (mF M 29), .ref 260, .int (mF M 31)] : List Value).set 11 (.int v))), (zH I C Y Γ D O M ou od j).2) = zH I C Y Γ D O M1 ou od j := by
  subst hw
  refine zH_set (by decide) rfl (fun b hb hne => cellM (a := 247) (by decide) hb (fun h => ?_))
  unfold px_cm
  rw [if_neg hne, if_neg hne]
  rfl
theorem sf_8_18 {v : Int32} (hw : wmF M 18 v = M1) : ((zH I C Y Γ D O M ou od j).1.set 247 (.inr (8, ([.int (mF M 0), .ref 248, .int (mF M 2), .int (mF M 3), .int (mF M 4), .int (mF M 5), .int (mF M 6), .int (mF M 7), .int (mF M 8), .int (mF M 9), .int (mF M 10), .int (mF M 11), .long (mN M), .ref 249, .ref 250, .ref 251, .ref 252, .ref 253, .int (mF M 18), .int (b2i (mB M)), .ref 254, .ref 255, .ref 256, .ref 257, .ref 258, .ref 259, .int (mF M 26), .int (mF M 27), .int (mF M 28), .int (mF M 29), .ref 260, .int (mF M 31)] : List Value).set 18 (.int v))), (zH I C Y Γ D O M ou od j).2) = zH I C Y Γ D O M1 ou od j := by
  subst hw
  refine zH_set (by decide) rfl (fun b hb hne => cellM (a := 247) (by decide) hb (fun h => ?_))
  unfold px_cm
  rw [if_neg hne, if_neg hne]
  rfl
theorem sf_8_26 {v : Int32} (hw : wmF M 26 v = M1) : ((zH I C Y Γ D O M ou od j).1.set 247 (.inr (8, ([.int (mF M 0), .ref 248, .int (mF M 2), .int (mF M 3), .int (mF M 4), .int (mF M 5), .int (mF M 6), .int (mF M 7), .int (mF M 8), .int (mF M 9), .int (mF M 10), .int (mF M 11), .long (mN M), .ref 249, .ref 250, .ref 251, .ref 252, .ref 253, .int (mF M 18), .int (b2i (mB M)), .ref 254, .ref 255, .ref 256, .ref 257, .ref 258, .ref 259, .int (mF M 26), .int (mF M 27), .int (mF M 28), .int (mF M 29), .ref 260, .int (mF M 31)] : List Value).set 26 (.int v))), (zH I C Y Γ D O M ou od j).2) = zH I C Y Γ D O M1 ou od j := by
  subst hw
  refine zH_set (by decide) rfl (fun b hb hne => cellM (a := 247) (by decide) hb (fun h => ?_))
  unfold px_cm
  rw [if_neg hne, if_neg hne]
  rfl
theorem sf_8_27 {v : Int32} (hw : wmF M 27 v = M1) : ((zH I C Y Γ D O M ou od j).1.set 247 (.inr (8, ([.int (mF M 0), .ref 248, .int (mF M 2), .int (mF M 3), .int (mF M 4), .int (mF M 5), .int (mF M 6), .int (mF M 7), .int (mF M 8), .int (mF M 9), .int (mF M 10), .int (mF M 11), .long (mN M), .ref 249, .ref 250, .ref 251, .ref 252, .ref 253, .int (mF M 18), .int (b2i (mB M)), .ref 254, .ref 255, .ref 256, .ref 257, .ref 258, .ref 259, .int (mF M 26), .int (mF M 27), .int (mF M 28), .int (mF M 29), .ref 260, .int (mF M 31)] : List Value).set 27 (.int v))), (zH I C Y Γ D O M ou od j).2) = zH I C Y Γ D O M1 ou od j := by
  subst hw
  refine zH_set (by decide) rfl (fun b hb hne => cellM (a := 247) (by decide) hb (fun h => ?_))
  unfold px_cm
  rw [if_neg hne, if_neg hne]
  rfl
theorem sf_8_28 {v : Int32} (hw : wmF M 28 v = M1) : ((zH I C Y Γ D O M ou od j).1.set 247 (.inr (8, ([.int (mF M 0), .ref 248, .int (mF M 2), .int (mF M 3), .int (mF M 4), .int (mF M 5), .int (mF M 6), .int (mF M 7), .int (mF M 8), .int (mF M 9), .int (mF M 10), .int (mF M 11), .long (mN M), .ref 249, .ref 250, .ref 251, .ref 252, .ref 253, .int (mF M 18), .int (b2i (mB M)), .ref 254, .ref 255, .ref 256, .ref 257, .ref 258, .ref 259, .int (mF M 26), .int (mF M 27), .int (mF M 28), .int (mF M 29), .ref 260, .int (mF M 31)] : List Value).set 28 (.int v))), (zH I C Y Γ D O M ou od j).2) = zH I C Y Γ D O M1 ou od j := by
  subst hw
  refine zH_set (by decide) rfl (fun b hb hne => cellM (a := 247) (by decide) hb (fun h => ?_))
  unfold px_cm
  rw [if_neg hne, if_neg hne]
  rfl
theorem sf_8_29 {v : Int32} (hw : wmF M 29 v = M1) : ((zH I C Y Γ D O M ou od j).1.set 247 (.inr (8, ([.int (mF M 0), .ref 248, .int (mF M 2), .int (mF M 3), .int (mF M 4), .int (mF M 5), .int (mF M 6), .int (mF M 7), .int (mF M 8), .int (mF M 9), .int (mF M 10), .int (mF M 11), .long (mN M), .ref 249, .ref 250, .ref 251, .ref 252, .ref 253, .int (mF M 18), .int (b2i (mB M)), .ref 254, .ref 255, .ref 256, .ref 257, .ref 258, .ref 259, .int (mF M 26), .int (mF M 27), .int (mF M 28), .int (mF M 29), .ref 260, .int (mF M 31)] : List Value).set 29 (.int v))), (zH I C Y Γ D O M ou od j).2) = zH I C Y Γ D O M1 ou od j := by
  subst hw
  refine zH_set (by decide) rfl (fun b hb hne => cellM (a := 247) (by decide) hb (fun h => ?_))
  unfold px_cm
  rw [if_neg hne, if_neg hne]
  rfl
theorem sf_8_31 {v : Int32} (hw : wmF M 31 v = M1) : ((zH I C Y Γ D O M ou od j).1.set 247 (.inr (8, ([.int (mF M 0), .ref 248, .int (mF M 2), .int (mF M 3), .int (mF M 4), .int (mF M 5), .int (mF M 6), .int (mF M 7), .int (mF M 8), .int (mF M 9), .int (mF M 10), .int (mF M 11), .long (mN M), .ref 249, .ref 250, .ref 251, .ref 252, .ref 253, .int (mF M 18), .int (b2i (mB M)), .ref 254, .ref 255, .ref 256, .ref 257, .ref 258, .ref 259, .int (mF M 26), .int (mF M 27), .int (mF M 28), .int (mF M 29), .ref 260, .int (mF M 31)] : List Value).set 31 (.int v))), (zH I C Y Γ D O M ou od j).2) = zH I C Y Γ D O M1 ou od j := by
  subst hw
  refine zH_set (by decide) rfl (fun b hb hne => cellM (a := 247) (by decide) hb (fun h => ?_))
  unfold px_cm
  rw [if_neg hne, if_neg hne]
  rfl
theorem sf_8_12 {v : Int64} (hw : wmN M v = M1) : ((zH I C Y Γ D O M ou od j).1.set 247 (.inr (8, ([.int (mF M 0), .ref 248, .int (mF M 2), .int (mF M 3), .int (mF M 4), .int (mF M 5), .int (mF M 6), .int (mF M 7), .int (mF M 8), .int (mF M 9), .int (mF M 10), .int (mF M 11), .long (mN M), .ref 249, .ref 250, .ref 251, .ref 252, .ref 253, .int (mF M 18), .int (b2i (mB M)), .ref 254, .ref 255, .ref 256, .ref 257, .ref 258, .ref 259, .int (mF M 26), .int (mF M 27), .int (mF M 28), .int (mF M 29), .ref 260, .int (mF M 31)] : List Value).set 12 (.long v))), (zH I C Y Γ D O M ou od j).2) = zH I C Y Γ D O M1 ou od j := by
  subst hw
  refine zH_set (by decide) rfl (fun b hb hne => cellM (a := 247) (by decide) hb (fun h => ?_))
  unfold px_cm
  rw [if_neg hne, if_neg hne]
  rfl
theorem sf_8_19 {v : Bool} (hw : wmB M v = M1) : ((zH I C Y Γ D O M ou od j).1.set 247 (.inr (8, ([.int (mF M 0), .ref 248, .int (mF M 2), .int (mF M 3), .int (mF M 4), .int (mF M 5), .int (mF M 6), .int (mF M 7), .int (mF M 8), .int (mF M 9), .int (mF M 10), .int (mF M 11), .long (mN M), .ref 249, .ref 250, .ref 251, .ref 252, .ref 253, .int (mF M 18), .int (b2i (mB M)), .ref 254, .ref 255, .ref 256, .ref 257, .ref 258, .ref 259, .int (mF M 26), .int (mF M 27), .int (mF M 28), .int (mF M 29), .ref 260, .int (mF M 31)] : List Value).set 19 (.int (b2i v)))), (zH I C Y Γ D O M ou od j).2) = zH I C Y Γ D O M1 ou od j := by
  subst hw
  refine zH_set (by decide) rfl (fun b hb hne => cellM (a := 247) (by decide) hb (fun h => ?_))
  unfold px_cm
  rw [if_neg hne, if_neg hne]
  rfl
theorem sa_ma {a : Nat} {A : Nat → Int32} (ha : isMA a) (hw : wmA M a A = M1) : ((zH I C Y Γ D O M ou od j).1.set a (.inl (0, mlen a, .inl A)), (zH I C Y Γ D O M ou od j).2) = zH I C Y Γ D O M1 ou od j := by
  subst hw
  obtain ⟨h1, h2⟩ := ha
  refine zH_set (by omega) ?_ (fun b hb hne => cellM (a := a) (by omega) hb (fun h => ?_))
  · unfold px_cell px_cm
    rw [if_neg (by omega), if_neg (by omega), if_neg (by omega), if_neg (by omega), if_neg (by omega), if_neg (by omega), if_pos (by omega)]
    have e1 : mA (wmA M a A) a = A := z1_same
    rw [e1]
    rfl
  · have e1 : mA (wmA M a A) b = mA M b := z1_ne hne
    have e2 : mF (wmA M a A) = mF M := rfl
    have e3 : mN (wmA M a A) = mN M := rfl
    have e4 : mB (wmA M a A) = mB M := rfl
    unfold px_cm
    rw [e1, e2, e3, e4]
theorem sa_m248 {A : Nat → Int32} (hw : wmA M 248 A = M1) : ((zH I C Y Γ D O M ou od j).1.set 248 (.inl (0, 600, .inl A)), (zH I C Y Γ D O M ou od j).2) = zH I C Y Γ D O M1 ou od j := sa_ma ma_248 hw
theorem sa_m249 {A : Nat → Int32} (hw : wmA M 249 A = M1) : ((zH I C Y Γ D O M ou od j).1.set 249 (.inl (0, 160, .inl A)), (zH I C Y Γ D O M ou od j).2) = zH I C Y Γ D O M1 ou od j := sa_ma ma_249 hw
theorem sa_m250 {A : Nat → Int32} (hw : wmA M 250 A = M1) : ((zH I C Y Γ D O M ou od j).1.set 250 (.inl (0, 160, .inl A)), (zH I C Y Γ D O M ou od j).2) = zH I C Y Γ D O M1 ou od j := sa_ma ma_250 hw
theorem sa_m251 {A : Nat → Int32} (hw : wmA M 251 A = M1) : ((zH I C Y Γ D O M ou od j).1.set 251 (.inl (0, 160, .inl A)), (zH I C Y Γ D O M ou od j).2) = zH I C Y Γ D O M1 ou od j := sa_ma ma_251 hw
theorem sa_m252 {A : Nat → Int32} (hw : wmA M 252 A = M1) : ((zH I C Y Γ D O M ou od j).1.set 252 (.inl (0, 160, .inl A)), (zH I C Y Γ D O M ou od j).2) = zH I C Y Γ D O M1 ou od j := sa_ma ma_252 hw
theorem sa_m253 {A : Nat → Int32} (hw : wmA M 253 A = M1) : ((zH I C Y Γ D O M ou od j).1.set 253 (.inl (0, 960, .inl A)), (zH I C Y Γ D O M ou od j).2) = zH I C Y Γ D O M1 ou od j := sa_ma ma_253 hw
theorem sa_m254 {A : Nat → Int32} (hw : wmA M 254 A = M1) : ((zH I C Y Γ D O M ou od j).1.set 254 (.inl (0, 60, .inl A)), (zH I C Y Γ D O M ou od j).2) = zH I C Y Γ D O M1 ou od j := sa_ma ma_254 hw
theorem sa_m255 {A : Nat → Int32} (hw : wmA M 255 A = M1) : ((zH I C Y Γ D O M ou od j).1.set 255 (.inl (0, 60, .inl A)), (zH I C Y Γ D O M ou od j).2) = zH I C Y Γ D O M1 ou od j := sa_ma ma_255 hw
theorem sa_m256 {A : Nat → Int32} (hw : wmA M 256 A = M1) : ((zH I C Y Γ D O M ou od j).1.set 256 (.inl (0, 60, .inl A)), (zH I C Y Γ D O M ou od j).2) = zH I C Y Γ D O M1 ou od j := sa_ma ma_256 hw
theorem sa_m257 {A : Nat → Int32} (hw : wmA M 257 A = M1) : ((zH I C Y Γ D O M ou od j).1.set 257 (.inl (0, 60, .inl A)), (zH I C Y Γ D O M ou od j).2) = zH I C Y Γ D O M1 ou od j := sa_ma ma_257 hw
theorem sa_m258 {A : Nat → Int32} (hw : wmA M 258 A = M1) : ((zH I C Y Γ D O M ou od j).1.set 258 (.inl (0, 2, .inl A)), (zH I C Y Γ D O M ou od j).2) = zH I C Y Γ D O M1 ou od j := sa_ma ma_258 hw
theorem sa_m259 {A : Nat → Int32} (hw : wmA M 259 A = M1) : ((zH I C Y Γ D O M ou od j).1.set 259 (.inl (0, 2, .inl A)), (zH I C Y Γ D O M ou od j).2) = zH I C Y Γ D O M1 ou od j := sa_ma ma_259 hw
theorem sa_m260 {A : Nat → Int32} (hw : wmA M 260 A = M1) : ((zH I C Y Γ D O M ou od j).1.set 260 (.inl (0, 37, .inl A)), (zH I C Y Γ D O M ou od j).2) = zH I C Y Γ D O M1 ou od j := sa_ma ma_260 hw
theorem sa_ou {A : Nat → Int64} (hw : A = ou1) : ((zH I C Y Γ D O M ou od j).1.set 261 (.inl (5, 1, .inr (.inl A))), (zH I C Y Γ D O M ou od j).2) = zH I C Y Γ D O M ou1 od j := by
  subst hw
  refine zH_set (by decide) rfl (fun b hb hne => cellM (a := 261) (by decide) hb (fun h => ?_))
  unfold px_cm
  rw [if_neg hne, if_neg hne]
theorem sa_od {A : Nat → UInt64} (hw : A = od1) : ((zH I C Y Γ D O M ou od j).1.set 262 (.inl (6, 1, .inr (.inr (.inr (.inl A))))), (zH I C Y Γ D O M ou od j).2) = zH I C Y Γ D O M ou od1 j := by
  subst hw
  refine zH_set (by decide) rfl (fun b hb hne => cellM (a := 262) (by decide) hb (fun h => ?_))
  unfold px_cm
  by_cases c1 : b = 246
  · rw [if_pos c1, if_pos c1]
  rw [if_neg c1, if_neg c1]
  by_cases c2 : b = 247
  · rw [if_pos c2, if_pos c2]
  rw [if_neg c2, if_neg c2]
  by_cases c3 : b < 261
  · rw [if_pos c3, if_pos c3]
  rw [if_neg c3, if_neg c3, if_pos (by omega), if_pos (by omega)]
theorem ite_or {α : Type} {P : Prop} [Decidable P] {A B X : α} (hx : (if P then A else B) = X) : (P ∧ A = X) ∨ (¬ P ∧ B = X) := by
  by_cases h : P
  · rw [if_pos h] at hx; exact Or.inl ⟨h, hx⟩
  · rw [if_neg h] at hx; exact Or.inr ⟨h, hx⟩
end PXH

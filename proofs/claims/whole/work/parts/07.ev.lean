/-! RUNS of the pure machine without their fuel, and the rules by which a run is laid together -/
section PXV
variable {S : Nat} {xs : Nat → Int32}
def Ev (S : Nat) (xs : Nat → Int32) (k pc : Nat) (L : px_L) (st : List Value) (h : px_H) (y : (Option Value ⊕ String) × px_H) : Prop := ∃ n, px_ex S xs n k pc L st h = some y
set_option maxHeartbeats 4000000 in
theorem px_fuel : ∀ (n k pc : Nat) (L : px_L) (st : List Value) (h : px_H) (y : (Option Value ⊕ String) × px_H), px_ex S xs n k pc L st h = some y → px_ex S xs (n + 1) k pc L st h = some y := by
  intro n
  induction n with
  | zero => intro k pc L st h y he; cases he
  | succ n ih =>
    intro k pc L st h y he
    rw [px_ex] at he
    rw [px_ex]
    cases h1 : pt_mt[k]? with
    | none => rw [h1] at he; cases he
    | some r =>
    simp only [h1] at he ⊢
    cases h2 : px_at (px_co r) pc with
    | none => rw [h2] at he; cases he
    | some q =>
    obtain ⟨i, len⟩ := q
    simp only [h2] at he ⊢
    cases h3 : px_op i st with
    | some st' => simp only [h3] at he ⊢; exact ih _ _ _ _ _ _ he
    | none =>
    simp only [h3] at he ⊢
    cases h4 : px_ls i L st with
    | some q => simp only [h4] at he ⊢; exact ih _ _ _ _ _ _ he
    | none =>
    simp only [h4] at he ⊢
    cases h5 : px_jp i pc len st with
    | some q =>
      simp only [h5] at he ⊢
      split at he
      · rename_i hq; rw [if_pos hq]; exact ih _ _ _ _ _ _ he
      · cases he
    | none =>
    simp only [h5] at he ⊢
    cases h6 : px_ret (px_rt r) i st with
    | some v => simp only [h6] at he ⊢; exact he
    | none =>
    simp only [h6] at he ⊢
    cases h7 : px_ca (px_cl r) i st h with
    | some q =>
      obtain ⟨kd, j, As, rest⟩ := q
      simp only [h7] at he ⊢
      cases h8 : pt_mt[j]? with
      | none => rw [h8] at he; cases he
      | some rj =>
      simp only [h8] at he ⊢
      split at he
      · cases he
      rename_i hl
      rw [if_neg hl]
      cases h9 : px_ex S xs n j 0 (px_in0 (px_mx rj) As) [] h with
      | none => rw [h9] at he; cases he
      | some z =>
      rw [h9] at he
      rw [ih _ _ _ _ _ _ h9]
      obtain ⟨o, h1'⟩ := z
      cases o with
      | inl v => dsimp only at he ⊢; exact ih _ _ _ _ _ _ he
      | inr E =>
        dsimp only at he ⊢
        split at he
        · cases he
        rename_i hkd
        rw [if_neg hkd]
        cases h10 : px_ha (px_cl r) (px_hh r) pc E with
        | none => rw [h10] at he; exact he
        | some t =>
          simp only [h10] at he ⊢
          cases h11 : px_hs (px_co r) t L with
          | none => rw [h11] at he; cases he
          | some q => simp only [h11] at he ⊢; exact ih _ _ _ _ _ _ he
    | none =>
    simp only [h7] at he ⊢
    cases h8 : px_th (px_cl r) (px_co r) pc st with
    | some E => simp only [h8] at he ⊢; exact he
    | none =>
    simp only [h8] at he ⊢
    cases h9 : px_hp (px_cl r) (decide ((px_y r).name = "<init>")) S xs i st h with
    | some q => simp only [h9] at he ⊢; exact ih _ _ _ _ _ _ he
    | none => rw [h9] at he; cases he
theorem px_fuel_le {n m k pc : Nat} {L : px_L} {st : List Value} {h : px_H} {y : (Option Value ⊕ String) × px_H} (hnm : n ≤ m) (he : px_ex S xs n k pc L st h = some y) : px_ex S xs m k pc L st h = some y := by
  obtain ⟨d, rfl⟩ := Nat.le.dest hnm
  clear hnm
  induction d with
  | zero => exact he
  | succ d ih => exact px_fuel _ _ _ _ _ _ _ ih
variable {k pc pc' : Nat} {r : px_R} {L : px_L} {st : List Value} {h : px_H} {y : (Option Value ⊕ String) × px_H} {len : Nat} {i : ClassFile.Instr}
theorem ev_op {st' : List Value} (hk : pt_mt[k]? = some r) (i : ClassFile.Instr) (len : Nat) (ha : px_at (px_co r) pc = some (i, len)) (ho : px_op i st = some st') (hp : pc + len = pc') (e : Ev S xs k pc' L st' h y) : Ev S xs k pc L st h y := by
  obtain ⟨n, hn⟩ := e
  subst hp
  refine ⟨n + 1, ?_⟩
  rw [px_ex]
  simp only [hk, ha, ho]
  exact hn
theorem ev_ls {st' : List Value} {L' : px_L} (hk : pt_mt[k]? = some r) (i : ClassFile.Instr) (len : Nat) (ha : px_at (px_co r) pc = some (i, len)) (h0 : px_op i st = none) (ho : px_ls i L st = some (L', st')) (hp : pc + len = pc') (e : Ev S xs k pc' L' st' h y) : Ev S xs k pc L st h y := by
  obtain ⟨n, hn⟩ := e
  subst hp
  refine ⟨n + 1, ?_⟩
  rw [px_ex]
  simp only [hk, ha, h0, ho]
  exact hn
theorem ev_jp {st' : List Value} (hk : pt_mt[k]? = some r) (i : ClassFile.Instr) (len : Nat) (ha : px_at (px_co r) pc = some (i, len)) (h0 : px_op i st = none) (h1 : px_ls i L st = none) (ho : px_jp i pc len st = some (pc', st')) (hq : px_jq i pc = true) (e : Ev S xs k pc' L st' h y) : Ev S xs k pc L st h y := by
  obtain ⟨n, hn⟩ := e
  refine ⟨n + 1, ?_⟩
  rw [px_ex]
  simp only [hk, ha, h0, h1, ho, hq, if_true]
  exact hn
theorem ev_ret {v : Option Value} (hk : pt_mt[k]? = some r) (i : ClassFile.Instr) (len : Nat) (ha : px_at (px_co r) pc = some (i, len)) (h0 : px_op i st = none) (h1 : px_ls i L st = none) (h2 : px_jp i pc len st = none) (ho : px_ret (px_rt r) i st = some v) : Ev S xs k pc L st h (.inl v, h) := by
  refine ⟨1, ?_⟩
  rw [px_ex]
  simp only [hk, ha, h0, h1, h2, ho]
theorem ev_hp {st' : List Value} {h' : px_H} (hk : pt_mt[k]? = some r) (i : ClassFile.Instr) (len : Nat) (ha : px_at (px_co r) pc = some (i, len)) (h0 : px_op i st = none) (h1 : px_ls i L st = none) (h2 : px_jp i pc len st = none) (h3 : px_ret (px_rt r) i st = none) (h4 : px_ca (px_cl r) i st h = none) (h5 : px_th (px_cl r) (px_co r) pc st = none) (ho : px_hp (px_cl r) (decide ((px_y r).name = "<init>")) S xs i st h = some (st', h')) (hp : pc + len = pc') (e : Ev S xs k pc' L st' h' y) : Ev S xs k pc L st h y := by
  obtain ⟨n, hn⟩ := e
  subst hp
  refine ⟨n + 1, ?_⟩
  rw [px_ex]
  simp only [hk, ha, h0, h1, h2, h3, h4, h5, ho]
  exact hn
theorem ev_th {E : String} (hk : pt_mt[k]? = some r) (i : ClassFile.Instr) (len : Nat) (ha : px_at (px_co r) pc = some (i, len)) (h0 : px_op i st = none) (h1 : px_ls i L st = none) (h2 : px_jp i pc len st = none) (h3 : px_ret (px_rt r) i st = none) (h4 : px_ca (px_cl r) i st h = none) (ho : px_th (px_cl r) (px_co r) pc st = some E) (hh : px_hh r = []) : Ev S xs k pc L st h (.inr E, (h.1, h.2.1 + 1, h.2.2.1 + 6, false)) := by
  refine ⟨1, ?_⟩
  rw [px_ex]
  simp only [hk, ha, h0, h1, h2, h3, h4, ho, hh, List.isEmpty_nil, if_true]
theorem ev_call {kd j : Nat} {As rest : List Value} {rj : px_R} {v : Option Value} {h1 : px_H} (hk : pt_mt[k]? = some r) (i : ClassFile.Instr) (len : Nat) (ha : px_at (px_co r) pc = some (i, len)) (h0 : px_op i st = none) (h1' : px_ls i L st = none) (h2 : px_jp i pc len st = none) (h3 : px_ret (px_rt r) i st = none) (ho : px_ca (px_cl r) i st h = some (kd, j, As, rest)) (hj : pt_mt[j]? = some rj) (hl : (px_in0 (px_mx rj) As).length = px_mx rj)
    (e1 : Ev S xs j 0 (px_in0 (px_mx rj) As) [] h (.inl v, h1)) (hp : pc + 3 = pc') (e : Ev S xs k pc' L (v.toList ++ rest) h1 y) : Ev S xs k pc L st h y := by
  obtain ⟨n, hn⟩ := e
  obtain ⟨n1, hn1⟩ := e1
  subst hp
  refine ⟨max n n1 + 1, ?_⟩
  rw [px_ex]
  simp only [hk, ha, h0, h1', h2, h3, ho, hj]
  rw [if_neg (fun z => z hl), px_fuel_le (Nat.le_max_right n n1) hn1]
  exact px_fuel_le (Nat.le_max_left n n1) hn
theorem ev_callX {kd j : Nat} {As rest : List Value} {rj : px_R} {E : String} {h1 : px_H} (hk : pt_mt[k]? = some r) (i : ClassFile.Instr) (len : Nat) (ha : px_at (px_co r) pc = some (i, len)) (h0 : px_op i st = none) (h1' : px_ls i L st = none) (h2 : px_jp i pc len st = none) (h3 : px_ret (px_rt r) i st = none) (ho : px_ca (px_cl r) i st h = some (kd, j, As, rest)) (hj : pt_mt[j]? = some rj) (hl : (px_in0 (px_mx rj) As).length = px_mx rj) (hkd : kd = 0 ∨ kd = 1 ∨ kd = 7) (hh : px_ha (px_cl r) (px_hh r) pc E = none)
    (e1 : Ev S xs j 0 (px_in0 (px_mx rj) As) [] h (.inr E, h1)) : Ev S xs k pc L st h (.inr E, h1) := by
  obtain ⟨n1, hn1⟩ := e1
  refine ⟨n1 + 1, ?_⟩
  rw [px_ex]
  simp only [hk, ha, h0, h1', h2, h3, ho, hj]
  rw [if_neg (fun z => z hl), hn1]
  dsimp only
  rw [if_neg (fun z => z hkd), hh]
theorem ev_callC {kd j t : Nat} {As rest : List Value} {rj : px_R} {E : String} {h1 : px_H} {L' : px_L} (hk : pt_mt[k]? = some r) (i : ClassFile.Instr) (len : Nat) (ha : px_at (px_co r) pc = some (i, len)) (h0 : px_op i st = none) (h1' : px_ls i L st = none) (h2 : px_jp i pc len st = none) (h3 : px_ret (px_rt r) i st = none) (ho : px_ca (px_cl r) i st h = some (kd, j, As, rest)) (hj : pt_mt[j]? = some rj) (hl : (px_in0 (px_mx rj) As).length = px_mx rj) (hkd : kd = 0 ∨ kd = 1 ∨ kd = 7) (hh : px_ha (px_cl r) (px_hh r) pc E = some t) (hs : px_hs (px_co r) t L = some (pc', L'))
    (e1 : Ev S xs j 0 (px_in0 (px_mx rj) As) [] h (.inr E, h1)) (e : Ev S xs k pc' L' [] h1 y) : Ev S xs k pc L st h y := by
  obtain ⟨n, hn⟩ := e
  obtain ⟨n1, hn1⟩ := e1
  refine ⟨max n n1 + 1, ?_⟩
  rw [px_ex]
  simp only [hk, ha, h0, h1', h2, h3, ho, hj]
  rw [if_neg (fun z => z hl), px_fuel_le (Nat.le_max_right n n1) hn1]
  dsimp only
  rw [if_neg (fun z => z hkd), hh]
  dsimp only
  rw [hs]
  exact px_fuel_le (Nat.le_max_left n n1) hn
end PXV

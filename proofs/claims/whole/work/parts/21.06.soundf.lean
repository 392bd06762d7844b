/-! calls *-/
section PXF
variable {p : Program} {l : Launch} {e : Env} {R : Room} {s : State} {m : MethodId} {args : Array Value} {below : List Frame} {meth : Method} {c : Code} {H : Heap} {locs : List Loc} {cells slots : Nat} {Q : State → Prop}
variable {B b S : Nat} {xs : Nat → Int32} {cy : Nat → ClassId} {D : va_G}
theorem px_caV {c0 x : Nat} {st : List Value} {h : px_H} {kd j : Nat} {As rest : List Value} (hh : px_ca c0 (.invokevirtual x) st h = some (kd, j, As, rest)) : ∃ n ps r bb ci fs As', (x, 0, j, n, ps) ∈ pt_M c0 ∧ kd = 0 ∧ pt_mt[j]? = some r ∧ As = .ref bb :: As' ∧ st = As'.reverse ++ .ref bb :: rest ∧ As'.length = n ∧ h.1[bb]? = some (.inr (ci, fs)) ∧ ci = pt_ob (px_cl r) ∧ (rest.map fun v => v.category).sum ≤ 8 := by
  simp only [px_ca] at hh
  split at hh
  · rename_i j' n ps hlk
    split at hh
    · rename_i r bb rest' hr hdrop
      split at hh
      · rename_i ci fs hcell
        split at hh
        · rename_i hc
          cases hh
          refine ⟨n, ps, r, bb, ci, fs, (st.take n).reverse, px_look hlk, rfl, hr, rfl, ?_, ?_, hcell, hc.1, hc.2.2⟩
          · rw [List.reverse_reverse, ← hdrop, List.take_append_drop]
          · rw [List.length_reverse, List.length_take]; omega
        · cases hh
      · cases hh
    · cases hh
  · cases hh
theorem px_caS {c0 x : Nat} {st : List Value} {h : px_H} {kd j : Nat} {As rest : List Value} (hh : px_ca c0 (.invokestatic x) st h = some (kd, j, As, rest)) : ∃ n ps, (x, kd, j, n, ps) ∈ pt_M c0 ∧ (kd = 1 ∨ kd = 3 ∨ kd = 7) ∧ st = As.reverse ++ rest ∧ As.length = n ∧ (rest.map fun v => v.category).sum ≤ 8 := by
  simp only [px_ca] at hh
  split at hh
  · rename_i k' j' n ps hlk
    split at hh
    · rename_i hc
      cases hh
      refine ⟨n, ps, px_look hlk, hc.1, ?_, ?_, hc.2.2⟩
      · rw [List.reverse_reverse, List.take_append_drop]
      · rw [List.length_reverse, List.length_take]; omega
    · cases hh
  · cases hh
theorem px_caI {c0 x : Nat} {st : List Value} {h : px_H} {kd j : Nat} {As rest : List Value} (hh : px_ca c0 (.invokespecial x) st h = some (kd, j, As, rest)) : ∃ n ps bb As', (x, kd, j, n, ps) ∈ pt_M c0 ∧ (kd = 2 ∨ kd = 4) ∧ As = .ref bb :: As' ∧ st = As'.reverse ++ .ref bb :: rest ∧ As'.length = n ∧ (rest.map fun v => v.category).sum ≤ 8 := by
  simp only [px_ca] at hh
  split at hh
  · rename_i k' j' n ps hlk
    split at hh
    · rename_i bb rest' hdrop
      split at hh
      · rename_i hc
        cases hh
        refine ⟨n, ps, bb, (st.take n).reverse, px_look hlk, hc.1, rfl, ?_, ?_, hc.2.2⟩
        · rw [List.reverse_reverse, ← hdrop, List.take_append_drop]
        · rw [List.length_reverse, List.length_take]; omega
      · cases hh
    · cases hh
  · cases hh
theorem px_lk {c0 x : Nat} {i : ClassFile.Instr} {st : List Value} {h : px_H} {kd j : Nat} {As rest : List Value} (hi : i = .invokevirtual x ∨ i = .invokestatic x ∨ i = .invokespecial x) (hh : px_ca c0 i st h = some (kd, j, As, rest)) : ∃ n ps, (pt_M c0).lookup x = some (kd, j, n, ps) := by
  rcases hi with rfl | rfl | rfl
  · simp only [px_ca] at hh
    split at hh
    · rename_i j' n ps hlk
      split at hh
      · split at hh
        · split at hh
          · cases hh; exact ⟨_, _, hlk⟩
          · cases hh
        · cases hh
      · cases hh
    · cases hh
  · simp only [px_ca] at hh
    split at hh
    · rename_i k' j' n ps hlk
      split at hh
      · cases hh; exact ⟨_, _, hlk⟩
      · cases hh
    · cases hh
  · simp only [px_ca] at hh
    split at hh
    · rename_i k' j' n ps hlk
      split at hh
      · split at hh
        · cases hh; exact ⟨_, _, hlk⟩
        · cases hh
      · cases hh
    · cases hh
theorem px_mapS (B b : Nat) (As rest : List Value) (v : Value) : (As.reverse ++ v :: rest).map (px_v B b) = (As.map (px_v B b)).reverse ++ px_v B b v :: rest.map (px_v B b) := by
  simp
theorem px_mapR (B b : Nat) (As rest : List Value) : (As.reverse ++ rest).map (px_v B b) = (As.map (px_v B b)).reverse ++ rest.map (px_v B b) := by
  simp
set_option maxHeartbeats 8000000 in
theorem px_wcall {r rj : px_R} {pc kd j mc ms : Nat} {ls : Array Slot} {st As rest : List Value} {h h1 : px_H} {res : Option Value ⊕ String} {i : ClassFile.Instr} (hin : px_In B b S xs cy D p l s m args meth c r) (hd : decode (px_b r) pc = .ok (i, 3)) (hca : px_ca (px_cl r) i st h = some (kd, j, As, rest)) (hj : pt_mt[j]? = some rj)
    (hM : vx_Met l (px_y rj) (px_ws rj) (px_rm rj mc ms) (px_Pc B b S xs cy D As h) (px_Qc B b cy D res h1) (px_XC B b cy D res h1) mc ms (fun q : Nat => B ≤ q)) (hrk : px_rk r i = true) (hfr : px_fr r ≤ R.frames) (hlo : px_lo r ≤ R.locals) (hkd : kd = 0 ∨ kd = 1 ∨ kd = 7 ∨ ∃ v, res = .inl v)
    (hHR : px_HR B b cy D h H) (hS : va_S (fun q : Nat => B ≤ q) s.heap H locs) (hsize : ls.size = c.maxLocals) (hfresh : h.2.2.2 = true → s.heap.size + cells ≤ B + h.1.length) (hcl : cells + mc ≤ R.cells) (hsl : slots + ms ≤ R.slots)
    (kk : ∀ v, res = .inl v → ∀ (H1 : Heap) (locs1 : List Loc), px_HR B b cy D h1 H1 → va_S (fun q : Nat => B ≤ q) s.heap H1 locs1 → W p l e R s m args below meth c H1 locs1 (cells + mc) (slots + ms) Q (F0 m (pc + 3) ls ((v.map (px_v B b)).toList ++ rest.map (px_v B b))))
    (kx : ∀ E, res = .inr E → ∀ (H1 : Heap) (locs1 : List Loc) (ce : Cell) (q : Addr), px_HR B b cy D h1 H1 → va_S (fun q : Nat => B ≤ q) s.heap H1 locs1 → H1[q]? = some ce → ce.vm = .none → s.vm.findClass E = some ce.cls → vx_W p l e R s m args below meth c H1 locs1 (cells + mc) (slots + ms) Q (F0 m pc ls (rest.map (px_v B b))) q) :
    W p l e R s m args below meth c H locs cells slots Q (F0 m pc ls (st.map (px_v B b))) := by
  obtain ⟨hx, hb, hml, hrt, hlocks, hown, hts, hK, htab, hini, hst⟩ := hin
  have hP : va_P D vwCl (px_w B b cy h.1) H := hHR
  refine W.size9 (fun hsz => ?_)
  have hpc : ∀ U : State, U.heap = H → s.WarmedH U.vm → px_Pc B b S xs cy D As h (As.map (px_v B b)).toArray U := fun U hU hW =>
    ⟨rfl, by rw [hU]; exact hHR, px_K.moved hW ⟨by rw [hU]; exact hS.1, fun q h1 h2 => by rw [hU]; exact hS.2.1 q h1 h2⟩ hK, fun hf => by rw [hU]; have := hfresh hf; omega⟩
  have hnl : ls.size = px_mx r := hsize.trans hml
  match i, hca, hd, hrk with
  | .invokevirtual x, hca, hd, hrk =>
    obtain ⟨n, ps, r', bb, ci, fs, As', hm, rfl, hj', rfl, rfl, hn, hcell, hci, hsum⟩ := px_caV hca
    cases hj.symm.trans hj'
    obtain ⟨hY, hhe, h9, hCn, w1, w2, w3, w4⟩ := px_okM0 hj (List.all_eq_true.mp (pt_okM _) _ hm)
    obtain ⟨hhd, y1, y2, y3, y4⟩ := px_okY_of (pt_all rj (List.mem_of_getElem? hj)) hY
    have hws : px_ws rj = Cond.code (px_y rj) (px_b rj) (px_mx rj) (px_rt rj) :: wsL_law := by unfold px_ws px_head; rw [if_pos hhe]
    have hrk2 : px_fr rj + 1 ≤ px_fr r ∧ 8 + (px_mx rj + 11) + px_lo rj ≤ px_lo r := by
      obtain ⟨nq, pq, hlk⟩ := px_lk (Or.inl rfl) hca
      simpa only [px_rk, hlk, hj, Bool.and_eq_true, decide_eq_true_eq, if_neg (show ¬ (0 : Nat) = 5 by decide), if_neg (show ¬ (0 : Nat) = 6 by decide)] using hrk
    rw [px_mapS]
    refine px_after (vx_runV (As := As'.map (px_v B b)) (rest := rest.map (px_v B b)) (C := pt_own (px_cl rj)) (b := B + bb) ⟨hx, hb, hml, hown, hts⟩ hM (cwV n hts (px_good (fun w hw => ?_)) hws rfl rfl ⟨y1, y2, y3, y4⟩ ⟨by show px_fr rj + 1 ≤ _; omega, by show _ + px_lo rj ≤ _; omega⟩) ⟨px_Pc.blind, ?_, hpc⟩ rfl (by rw [List.length_map]; exact hn) hnl rfl (lv_room (by rw [px_cats]; exact hsum)) hd ⟨hcl, hsl⟩) hS kk kx
    · unfold wsV at hw
      rcases List.mem_append.mp hw with hw | hw
      · simp only [List.mem_cons, List.not_mem_nil, or_false] at hw
        rcases hw with rfl | rfl | rfl | rfl <;> assumption
      · rcases List.mem_cons.mp hw with rfl | hw
        · exact hhd
        · exact hw
    · rw [← hCn, ← hci]
      exact va_recv hK.1 hP (px_cl_at ci (by rw [hci]; exact h9)) (px_w_get hcell)
  | .invokestatic x, hca, hd, hrk =>
    obtain ⟨n, ps, hm, hkd3, rfl, hn, hsum⟩ := px_caS hca
    have hrk2 : px_fr rj + 1 ≤ px_fr r ∧ 8 + (px_mx rj + 11) + px_lo rj ≤ px_lo r := by
      obtain ⟨n', ps', hlk⟩ := px_lk (Or.inr (Or.inl rfl)) hca
      simpa only [px_rk, hlk, hj, Bool.and_eq_true, decide_eq_true_eq, if_neg (show ¬ kd = 5 by omega), if_neg (show ¬ kd = 6 by omega)] using hrk
    rw [px_mapR]
    rcases hkd3 with rfl | rfl | rfl
    · obtain ⟨hY, hhe, w1, w2, w3⟩ := px_okM1 hj (List.all_eq_true.mp (pt_okM _) _ hm)
      obtain ⟨hhd, y1, y2, y3, y4⟩ := px_okY_of (pt_all rj (List.mem_of_getElem? hj)) hY
      have hws : px_ws rj = Cond.code (px_y rj) (px_b rj) (px_mx rj) (px_rt rj) :: wsL_law := by unfold px_ws px_head; rw [if_pos hhe]
      refine px_after (vx_runS (As := As.map (px_v B b)) (rest := rest.map (px_v B b)) ⟨hx, hb, hml, hown, hts⟩ hM (va_cwS n hts (px_good (fun w hw => ?_)) hws rfl rfl ⟨y2, y3, y4⟩ ⟨by show px_fr rj + 1 ≤ _; omega, by show _ + px_lo rj ≤ _; omega⟩) ⟨px_Pc.blind, hpc⟩ rfl (by rw [List.length_map]; exact hn) hnl rfl (lv_room (by rw [px_cats]; exact hsum)) hd ⟨hcl, hsl⟩) hS kk kx
      unfold va_wsS at hw
      rcases List.mem_append.mp hw with hw | hw
      · simp only [List.mem_cons, List.not_mem_nil, or_false] at hw
        rcases hw with rfl | rfl | rfl
        · exact w1
        · exact w2
        · rw [y1]; exact w3
      · rcases List.mem_cons.mp hw with rfl | hw
        · exact hhd
        · exact hw
    · obtain ⟨v, rfl⟩ : ∃ v, res = .inl v := by rcases hkd with z | z | z | z <;> first | exact z | cases z
      obtain ⟨hY, hhe, w1, w2, w3⟩ := px_okM3 hj (List.all_eq_true.mp (pt_okM _) _ hm)
      obtain ⟨hhd, y1, y2, y3, y4⟩ := px_okY_of (pt_all rj (List.mem_of_getElem? hj)) hY
      have hws : px_ws rj = Cond.code (px_y rj) (px_b rj) (px_mx rj) (px_rt rj) :: wsL_law := by unfold px_ws px_head; rw [if_pos hhe]
      have hNe := hK.2.2.2.2.2.2.2.1 _ w1
      refine px_after2 (va_runSN (host := "DateHem") (As := As.map (px_v B b)) (rest := rest.map (px_v B b)) ⟨hx, hb, hml, hown, hts⟩ (px_met_of hM) ⟨va_cnB n hts (px_good (fun w hw => ?_)) hws rfl rfl hNe (by rw [y1]; exact hts _ w3) ⟨y2, y3, y4⟩ ⟨by show px_fr rj + 1 ≤ _; omega, by show _ + px_lo rj ≤ _; omega⟩, hts _ w2, trivial⟩ ⟨px_Pc.blind, hpc⟩ rfl (by rw [List.length_map]; exact hn) hnl rfl (lv_room (by rw [px_cats]; exact hsum)) hd ⟨hcl, hsl⟩) hS kk
      rcases List.mem_cons.mp hw with rfl | hw
      · exact hhd
      · exact hw
    · obtain ⟨hY, hhe, w1, w2, w3⟩ := px_okM7 hj (List.all_eq_true.mp (pt_okM _) _ hm)
      obtain ⟨hhd, y1, y2, y3, y4⟩ := px_okY_of (pt_all rj (List.mem_of_getElem? hj)) hY
      have hws : px_ws rj = Cond.codeWith (px_y rj) (px_b rj) (px_mx rj) (px_rt rj) (px_hh rj) :: wsL_law := by unfold px_ws px_head; rw [if_neg (by rw [hhe]; decide)]
      refine px_after (vx_runSX (As := As.map (px_v B b)) (rest := rest.map (px_v B b)) ⟨hx, hb, hml, hown, hts⟩ hM (vx_cwSW n hts (px_good (fun w hw => ?_)) hws rfl rfl ⟨y2, y3, y4⟩ ⟨by show px_fr rj + 1 ≤ _; omega, by show _ + px_lo rj ≤ _; omega⟩) ⟨px_Pc.blind, hpc⟩ rfl (by rw [List.length_map]; exact hn) hnl rfl (lv_room (by rw [px_cats]; exact hsum)) hd ⟨hcl, hsl⟩) hS kk kx
      unfold va_wsS at hw
      rcases List.mem_append.mp hw with hw | hw
      · simp only [List.mem_cons, List.not_mem_nil, or_false] at hw
        rcases hw with rfl | rfl | rfl
        · exact w1
        · exact w2
        · rw [y1]; exact w3
      · rcases List.mem_cons.mp hw with rfl | hw
        · exact hhd
        · exact hw
  | .invokespecial x, hca, hd, hrk =>
    obtain ⟨n, ps, bb, As', hm, hkd2, rfl, rfl, hn, hsum⟩ := px_caI hca
    obtain ⟨v, rfl⟩ : ∃ v, res = .inl v := by
      rcases hkd with z | z | z | z
      · omega
      · omega
      · omega
      · exact z
    have hrk2 : px_fr rj + 1 ≤ px_fr r ∧ 8 + (px_mx rj + 11) + px_lo rj ≤ px_lo r := by
      obtain ⟨n', ps', hlk⟩ := px_lk (Or.inr (Or.inr rfl)) hca
      simpa only [px_rk, hlk, hj, Bool.and_eq_true, decide_eq_true_eq, if_neg (show ¬ kd = 5 by omega), if_neg (show ¬ kd = 6 by omega)] using hrk
    rw [px_mapS]
    rcases hkd2 with rfl | rfl
    · obtain ⟨hY, hhe, hnm, hrt0, w1, w2, w3⟩ := px_okM2 hj (List.all_eq_true.mp (pt_okM _) _ hm)
      obtain ⟨hhd, y1, y2, y3, y4⟩ := px_okY_of (pt_all rj (List.mem_of_getElem? hj)) hY
      have hws : px_ws rj = Cond.code (px_y rj) (px_b rj) (px_mx rj) none :: wsL_law := by unfold px_ws px_head; rw [if_pos hhe, hrt0]
      refine px_after2 (va_runI (As := As'.map (px_v B b)) (rest := rest.map (px_v B b)) (b := B + bb) ⟨hx, hb, hml, hown, hts⟩ (px_met_of hM) (cwI n hts (px_good (fun w hw => ?_)) hws rfl rfl (by rw [y1]; exact hts _ w3) (hts _ w1) (hts _ w2) hnm ⟨y2, y3, y4⟩ ⟨by show px_fr rj + 1 ≤ _; omega, by show _ + px_lo rj ≤ _; omega⟩) ⟨px_Pc.blind, hpc⟩ rfl (by rw [List.length_map]; exact hn) hnl rfl (lv_room (by rw [px_cats]; exact hsum)) hd ⟨hcl, hsl⟩) hS kk
      rcases List.mem_cons.mp hw with rfl | hw
      · exact hhd
      · exact hw
    · obtain ⟨hY, hhe, hnm, hrt0, w1, w2, w3⟩ := px_okM4 hj (List.all_eq_true.mp (pt_okM _) _ hm)
      obtain ⟨hhd, y1, y2, y3, y4⟩ := px_okY_of (pt_all rj (List.mem_of_getElem? hj)) hY
      have hws : px_ws rj = Cond.code (px_y rj) (px_b rj) (px_mx rj) none :: wsL_law := by unfold px_ws px_head; rw [if_pos hhe, hrt0]
      have hNe := hK.2.2.2.2.2.2.2.1 _ w1
      refine px_after2 (va_runIN (host := "DateHem") (As := As'.map (px_v B b)) (rest := rest.map (px_v B b)) (b := B + bb) ⟨hx, hb, hml, hown, hts⟩ (px_met_of hM) ⟨va_cnB n hts (px_good (fun w hw => ?_)) hws rfl rfl hNe (by rw [y1]; exact hts _ w3) ⟨y2, y3, y4⟩ ⟨by show px_fr rj + 1 ≤ _; omega, by show _ + px_lo rj ≤ _; omega⟩, hnm, hts _ w2⟩ ⟨px_Pc.blind, hpc⟩ rfl (by rw [List.length_map]; exact hn) hnl rfl (lv_room (by rw [px_cats]; exact hsum)) hd ⟨hcl, hsl⟩) hS kk
      rcases List.mem_cons.mp hw with rfl | hw
      · exact hhd
      · exact hw
end PXF

set_option maxRecDepth 100000 in
theorem pt_d280 : ∀ c ∈ pt_c280, ∀ q ∈ c, decode (px_b pt_r280) q.1 = .ok q.2 := by decide +kernel
set_option maxRecDepth 100000 in
theorem pt_d281 : ∀ c ∈ pt_c281, ∀ q ∈ c, decode (px_b pt_r281) q.1 = .ok q.2 := by decide +kernel
set_option maxRecDepth 100000 in
theorem pt_d282 : ∀ c ∈ pt_c282, ∀ q ∈ c, decode (px_b pt_r282) q.1 = .ok q.2 := by decide +kernel
set_option maxRecDepth 100000 in
theorem pt_d283 : ∀ c ∈ pt_c283, ∀ q ∈ c, decode (px_b pt_r283) q.1 = .ok q.2 := by decide +kernel
set_option maxRecDepth 100000 in
theorem pt_d284 : ∀ c ∈ pt_c284, ∀ q ∈ c, decode (px_b pt_r284) q.1 = .ok q.2 := by decide +kernel
set_option maxRecDepth 100000 in
theorem pt_d285_0 : ∀ q ∈ pt_c285_0, decode (px_b pt_r285) q.1 = .ok q.2 := by decide +kernel
set_option maxRecDepth 100000 in
theorem pt_d285_1 : ∀ q ∈ pt_c285_1, decode (px_b pt_r285) q.1 = .ok q.2 := by decide +kernel
set_option maxRecDepth 100000 in
theorem pt_d285_2 : ∀ q ∈ pt_c285_2, decode (px_b pt_r285) q.1 = .ok q.2 := by decide +kernel
set_option maxRecDepth 100000 in
theorem pt_d285_3 : ∀ q ∈ pt_c285_3, decode (px_b pt_r285) q.1 = .ok q.2 := by decide +kernel
set_option maxRecDepth 100000 in
theorem pt_d285_4 : ∀ q ∈ pt_c285_4, decode (px_b pt_r285) q.1 = .ok q.2 := by decide +kernel
set_option maxRecDepth 100000 in
theorem pt_d285 : ∀ c ∈ pt_c285, ∀ q ∈ c, decode (px_b pt_r285) q.1 = .ok q.2 := List.forall_mem_cons.mpr ⟨pt_d285_0, List.forall_mem_cons.mpr ⟨pt_d285_1, List.forall_mem_cons.mpr ⟨pt_d285_2, List.forall_mem_cons.mpr ⟨pt_d285_3, List.forall_mem_cons.mpr ⟨pt_d285_4, fun _ h => absurd h List.not_mem_nil⟩⟩⟩⟩⟩
set_option maxRecDepth 100000 in
theorem pt_d286 : ∀ c ∈ pt_c286, ∀ q ∈ c, decode (px_b pt_r286) q.1 = .ok q.2 := by decide +kernel
set_option maxRecDepth 100000 in
theorem pt_d287 : ∀ c ∈ pt_c287, ∀ q ∈ c, decode (px_b pt_r287) q.1 = .ok q.2 := by decide +kernel
set_option maxRecDepth 100000 in
theorem pt_d288 : ∀ c ∈ pt_c288, ∀ q ∈ c, decode (px_b pt_r288) q.1 = .ok q.2 := by decide +kernel
set_option maxRecDepth 100000 in
theorem pt_d289 : ∀ c ∈ pt_c289, ∀ q ∈ c, decode (px_b pt_r289) q.1 = .ok q.2 := by decide +kernel
set_option maxRecDepth 100000 in
theorem pt_d290 : ∀ c ∈ pt_c290, ∀ q ∈ c, decode (px_b pt_r290) q.1 = .ok q.2 := by decide +kernel
set_option maxRecDepth 100000 in
theorem pt_d291 : ∀ c ∈ pt_c291, ∀ q ∈ c, decode (px_b pt_r291) q.1 = .ok q.2 := by decide +kernel
set_option maxRecDepth 100000 in
theorem pt_d292 : ∀ c ∈ pt_c292, ∀ q ∈ c, decode (px_b pt_r292) q.1 = .ok q.2 := by decide +kernel
set_option maxRecDepth 100000 in
theorem pt_d293 : ∀ c ∈ pt_c293, ∀ q ∈ c, decode (px_b pt_r293) q.1 = .ok q.2 := by decide +kernel
set_option maxRecDepth 100000 in
theorem pt_d294 : ∀ c ∈ pt_c294, ∀ q ∈ c, decode (px_b pt_r294) q.1 = .ok q.2 := by decide +kernel
set_option maxRecDepth 100000 in
theorem pt_d295 : ∀ c ∈ pt_c295, ∀ q ∈ c, decode (px_b pt_r295) q.1 = .ok q.2 := by decide +kernel
set_option maxRecDepth 100000 in
theorem pt_d296 : ∀ c ∈ pt_c296, ∀ q ∈ c, decode (px_b pt_r296) q.1 = .ok q.2 := by decide +kernel
set_option maxRecDepth 100000 in
theorem pt_d297 : ∀ c ∈ pt_c297, ∀ q ∈ c, decode (px_b pt_r297) q.1 = .ok q.2 := by decide +kernel
set_option maxRecDepth 100000 in
theorem pt_d298 : ∀ c ∈ pt_c298, ∀ q ∈ c, decode (px_b pt_r298) q.1 = .ok q.2 := by decide +kernel
set_option maxRecDepth 100000 in
theorem pt_d299 : ∀ c ∈ pt_c299, ∀ q ∈ c, decode (px_b pt_r299) q.1 = .ok q.2 := by decide +kernel
set_option maxRecDepth 100000 in
theorem pt_d300 : ∀ c ∈ pt_c300, ∀ q ∈ c, decode (px_b pt_r300) q.1 = .ok q.2 := by decide +kernel
set_option maxRecDepth 100000 in
theorem pt_d301 : ∀ c ∈ pt_c301, ∀ q ∈ c, decode (px_b pt_r301) q.1 = .ok q.2 := by decide +kernel
set_option maxRecDepth 100000 in
theorem pt_d302 : ∀ c ∈ pt_c302, ∀ q ∈ c, decode (px_b pt_r302) q.1 = .ok q.2 := by decide +kernel
set_option maxRecDepth 100000 in
theorem pt_d303 : ∀ c ∈ pt_c303, ∀ q ∈ c, decode (px_b pt_r303) q.1 = .ok q.2 := by decide +kernel
set_option maxRecDepth 100000 in
theorem pt_d304 : ∀ c ∈ pt_c304, ∀ q ∈ c, decode (px_b pt_r304) q.1 = .ok q.2 := by decide +kernel
set_option maxRecDepth 100000 in
theorem pt_d305 : ∀ c ∈ pt_c305, ∀ q ∈ c, decode (px_b pt_r305) q.1 = .ok q.2 := by decide +kernel
set_option maxRecDepth 100000 in
theorem pt_d306 : ∀ c ∈ pt_c306, ∀ q ∈ c, decode (px_b pt_r306) q.1 = .ok q.2 := by decide +kernel
set_option maxRecDepth 100000 in
theorem pt_d307 : ∀ c ∈ pt_c307, ∀ q ∈ c, decode (px_b pt_r307) q.1 = .ok q.2 := by decide +kernel
set_option maxRecDepth 100000 in
theorem pt_d308 : ∀ c ∈ pt_c308, ∀ q ∈ c, decode (px_b pt_r308) q.1 = .ok q.2 := by decide +kernel
set_option maxRecDepth 100000 in
theorem pt_d309 : ∀ c ∈ pt_c309, ∀ q ∈ c, decode (px_b pt_r309) q.1 = .ok q.2 := by decide +kernel
set_option maxRecDepth 100000 in
theorem pt_d310 : ∀ c ∈ pt_c310, ∀ q ∈ c, decode (px_b pt_r310) q.1 = .ok q.2 := by decide +kernel
set_option maxRecDepth 100000 in
theorem pt_d311 : ∀ c ∈ pt_c311, ∀ q ∈ c, decode (px_b pt_r311) q.1 = .ok q.2 := by decide +kernel
set_option maxRecDepth 100000 in
theorem pt_d312 : ∀ c ∈ pt_c312, ∀ q ∈ c, decode (px_b pt_r312) q.1 = .ok q.2 := by decide +kernel
set_option maxRecDepth 100000 in
theorem pt_d313 : ∀ c ∈ pt_c313, ∀ q ∈ c, decode (px_b pt_r313) q.1 = .ok q.2 := by decide +kernel
set_option maxRecDepth 100000 in
theorem pt_d314 : ∀ c ∈ pt_c314, ∀ q ∈ c, decode (px_b pt_r314) q.1 = .ok q.2 := by decide +kernel
set_option maxRecDepth 100000 in
theorem pt_d315 : ∀ c ∈ pt_c315, ∀ q ∈ c, decode (px_b pt_r315) q.1 = .ok q.2 := by decide +kernel
set_option maxRecDepth 100000 in
theorem pt_d316 : ∀ c ∈ pt_c316, ∀ q ∈ c, decode (px_b pt_r316) q.1 = .ok q.2 := by decide +kernel
set_option maxRecDepth 100000 in
theorem pt_d317 : ∀ c ∈ pt_c317, ∀ q ∈ c, decode (px_b pt_r317) q.1 = .ok q.2 := by decide +kernel
set_option maxRecDepth 100000 in
theorem pt_d318 : ∀ c ∈ pt_c318, ∀ q ∈ c, decode (px_b pt_r318) q.1 = .ok q.2 := by decide +kernel
set_option maxRecDepth 100000 in
theorem pt_d319 : ∀ c ∈ pt_c319, ∀ q ∈ c, decode (px_b pt_r319) q.1 = .ok q.2 := by decide +kernel
set_option maxRecDepth 100000 in
theorem pt_d320 : ∀ c ∈ pt_c320, ∀ q ∈ c, decode (px_b pt_r320) q.1 = .ok q.2 := by decide +kernel
set_option maxRecDepth 100000 in
theorem pt_d321 : ∀ c ∈ pt_c321, ∀ q ∈ c, decode (px_b pt_r321) q.1 = .ok q.2 := by decide +kernel
set_option maxRecDepth 100000 in
theorem pt_d322 : ∀ c ∈ pt_c322, ∀ q ∈ c, decode (px_b pt_r322) q.1 = .ok q.2 := by decide +kernel
set_option maxRecDepth 100000 in
theorem pt_d323 : ∀ c ∈ pt_c323, ∀ q ∈ c, decode (px_b pt_r323) q.1 = .ok q.2 := by decide +kernel
set_option maxRecDepth 100000 in
theorem pt_d324 : ∀ c ∈ pt_c324, ∀ q ∈ c, decode (px_b pt_r324) q.1 = .ok q.2 := by decide +kernel
set_option maxRecDepth 100000 in
theorem pt_d325 : ∀ c ∈ pt_c325, ∀ q ∈ c, decode (px_b pt_r325) q.1 = .ok q.2 := by decide +kernel
set_option maxRecDepth 100000 in
theorem pt_d326 : ∀ c ∈ pt_c326, ∀ q ∈ c, decode (px_b pt_r326) q.1 = .ok q.2 := by decide +kernel
set_option maxRecDepth 100000 in
theorem pt_d327 : ∀ c ∈ pt_c327, ∀ q ∈ c, decode (px_b pt_r327) q.1 = .ok q.2 := by decide +kernel
set_option maxRecDepth 100000 in
theorem pt_d328 : ∀ c ∈ pt_c328, ∀ q ∈ c, decode (px_b pt_r328) q.1 = .ok q.2 := by decide +kernel
set_option maxRecDepth 100000 in
theorem pt_d329 : ∀ c ∈ pt_c329, ∀ q ∈ c, decode (px_b pt_r329) q.1 = .ok q.2 := by decide +kernel
set_option maxRecDepth 100000 in
theorem pt_d330 : ∀ c ∈ pt_c330, ∀ q ∈ c, decode (px_b pt_r330) q.1 = .ok q.2 := by decide +kernel
set_option maxRecDepth 100000 in
theorem pt_d331 : ∀ c ∈ pt_c331, ∀ q ∈ c, decode (px_b pt_r331) q.1 = .ok q.2 := by decide +kernel
set_option maxRecDepth 100000 in
theorem pt_d332 : ∀ c ∈ pt_c332, ∀ q ∈ c, decode (px_b pt_r332) q.1 = .ok q.2 := by decide +kernel
set_option maxRecDepth 100000 in
theorem pt_d333 : ∀ c ∈ pt_c333, ∀ q ∈ c, decode (px_b pt_r333) q.1 = .ok q.2 := by decide +kernel
set_option maxRecDepth 100000 in
theorem pt_d334 : ∀ c ∈ pt_c334, ∀ q ∈ c, decode (px_b pt_r334) q.1 = .ok q.2 := by decide +kernel
set_option maxRecDepth 100000 in
theorem pt_d335 : ∀ c ∈ pt_c335, ∀ q ∈ c, decode (px_b pt_r335) q.1 = .ok q.2 := by decide +kernel
set_option maxRecDepth 100000 in
theorem pt_d336 : ∀ c ∈ pt_c336, ∀ q ∈ c, decode (px_b pt_r336) q.1 = .ok q.2 := by decide +kernel
set_option maxRecDepth 100000 in
theorem pt_d337 : ∀ c ∈ pt_c337, ∀ q ∈ c, decode (px_b pt_r337) q.1 = .ok q.2 := by decide +kernel
set_option maxRecDepth 100000 in
theorem pt_d338 : ∀ c ∈ pt_c338, ∀ q ∈ c, decode (px_b pt_r338) q.1 = .ok q.2 := by decide +kernel
set_option maxRecDepth 100000 in
theorem pt_d339 : ∀ c ∈ pt_c339, ∀ q ∈ c, decode (px_b pt_r339) q.1 = .ok q.2 := by decide +kernel
set_option maxRecDepth 100000 in
theorem pt_d340 : ∀ c ∈ pt_c340, ∀ q ∈ c, decode (px_b pt_r340) q.1 = .ok q.2 := by decide +kernel
set_option maxRecDepth 100000 in
theorem pt_d341 : ∀ c ∈ pt_c341, ∀ q ∈ c, decode (px_b pt_r341) q.1 = .ok q.2 := by decide +kernel
set_option maxRecDepth 100000 in
theorem pt_d342 : ∀ c ∈ pt_c342, ∀ q ∈ c, decode (px_b pt_r342) q.1 = .ok q.2 := by decide +kernel
set_option maxRecDepth 100000 in
theorem pt_d343 : ∀ c ∈ pt_c343, ∀ q ∈ c, decode (px_b pt_r343) q.1 = .ok q.2 := by decide +kernel
set_option maxRecDepth 100000 in
theorem pt_d344 : ∀ c ∈ pt_c344, ∀ q ∈ c, decode (px_b pt_r344) q.1 = .ok q.2 := by decide +kernel
set_option maxRecDepth 100000 in
theorem pt_d345 : ∀ c ∈ pt_c345, ∀ q ∈ c, decode (px_b pt_r345) q.1 = .ok q.2 := by decide +kernel
set_option maxRecDepth 100000 in
theorem pt_d346 : ∀ c ∈ pt_c346, ∀ q ∈ c, decode (px_b pt_r346) q.1 = .ok q.2 := by decide +kernel
set_option maxRecDepth 100000 in
theorem pt_d347 : ∀ c ∈ pt_c347, ∀ q ∈ c, decode (px_b pt_r347) q.1 = .ok q.2 := by decide +kernel
set_option maxRecDepth 100000 in
theorem pt_d348 : ∀ c ∈ pt_c348, ∀ q ∈ c, decode (px_b pt_r348) q.1 = .ok q.2 := by decide +kernel
set_option maxRecDepth 100000 in
theorem pt_d349 : ∀ c ∈ pt_c349, ∀ q ∈ c, decode (px_b pt_r349) q.1 = .ok q.2 := by decide +kernel

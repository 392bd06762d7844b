set_option maxRecDepth 100000 in
theorem pt_d210_0 : ∀ q ∈ pt_c210_0, decode (px_b pt_r210) q.1 = .ok q.2 := by decide +kernel
set_option maxRecDepth 100000 in
theorem pt_d210_1 : ∀ q ∈ pt_c210_1, decode (px_b pt_r210) q.1 = .ok q.2 := by decide +kernel
set_option maxRecDepth 100000 in
theorem pt_d210_2 : ∀ q ∈ pt_c210_2, decode (px_b pt_r210) q.1 = .ok q.2 := by decide +kernel
set_option maxRecDepth 100000 in
theorem pt_d210_3 : ∀ q ∈ pt_c210_3, decode (px_b pt_r210) q.1 = .ok q.2 := by decide +kernel
set_option maxRecDepth 100000 in
theorem pt_d210_4 : ∀ q ∈ pt_c210_4, decode (px_b pt_r210) q.1 = .ok q.2 := by decide +kernel
set_option maxRecDepth 100000 in
theorem pt_d210_5 : ∀ q ∈ pt_c210_5, decode (px_b pt_r210) q.1 = .ok q.2 := by decide +kernel
set_option maxRecDepth 100000 in
theorem pt_d210 : ∀ c ∈ pt_c210, ∀ q ∈ c, decode (px_b pt_r210) q.1 = .ok q.2 := List.forall_mem_cons.mpr ⟨pt_d210_0, List.forall_mem_cons.mpr ⟨pt_d210_1, List.forall_mem_cons.mpr ⟨pt_d210_2, List.forall_mem_cons.mpr ⟨pt_d210_3, List.forall_mem_cons.mpr ⟨pt_d210_4, List.forall_mem_cons.mpr ⟨pt_d210_5, fun _ h => absurd h List.not_mem_nil⟩⟩⟩⟩⟩⟩
set_option maxRecDepth 100000 in
theorem pt_d211 : ∀ c ∈ pt_c211, ∀ q ∈ c, decode (px_b pt_r211) q.1 = .ok q.2 := by decide +kernel
set_option maxRecDepth 100000 in
theorem pt_d212 : ∀ c ∈ pt_c212, ∀ q ∈ c, decode (px_b pt_r212) q.1 = .ok q.2 := by decide +kernel
set_option maxRecDepth 100000 in
theorem pt_d213_0 : ∀ q ∈ pt_c213_0, decode (px_b pt_r213) q.1 = .ok q.2 := by decide +kernel
set_option maxRecDepth 100000 in
theorem pt_d213_1 : ∀ q ∈ pt_c213_1, decode (px_b pt_r213) q.1 = .ok q.2 := by decide +kernel
set_option maxRecDepth 100000 in
theorem pt_d213_2 : ∀ q ∈ pt_c213_2, decode (px_b pt_r213) q.1 = .ok q.2 := by decide +kernel
set_option maxRecDepth 100000 in
theorem pt_d213_3 : ∀ q ∈ pt_c213_3, decode (px_b pt_r213) q.1 = .ok q.2 := by decide +kernel
set_option maxRecDepth 100000 in
theorem pt_d213_4 : ∀ q ∈ pt_c213_4, decode (px_b pt_r213) q.1 = .ok q.2 := by decide +kernel
set_option maxRecDepth 100000 in
theorem pt_d213 : ∀ c ∈ pt_c213, ∀ q ∈ c, decode (px_b pt_r213) q.1 = .ok q.2 := List.forall_mem_cons.mpr ⟨pt_d213_0, List.forall_mem_cons.mpr ⟨pt_d213_1, List.forall_mem_cons.mpr ⟨pt_d213_2, List.forall_mem_cons.mpr ⟨pt_d213_3, List.forall_mem_cons.mpr ⟨pt_d213_4, fun _ h => absurd h List.not_mem_nil⟩⟩⟩⟩⟩
set_option maxRecDepth 100000 in
theorem pt_d214 : ∀ c ∈ pt_c214, ∀ q ∈ c, decode (px_b pt_r214) q.1 = .ok q.2 := by decide +kernel
set_option maxRecDepth 100000 in
theorem pt_d215 : ∀ c ∈ pt_c215, ∀ q ∈ c, decode (px_b pt_r215) q.1 = .ok q.2 := by decide +kernel
set_option maxRecDepth 100000 in
theorem pt_d216 : ∀ c ∈ pt_c216, ∀ q ∈ c, decode (px_b pt_r216) q.1 = .ok q.2 := by decide +kernel
set_option maxRecDepth 100000 in
theorem pt_d217 : ∀ c ∈ pt_c217, ∀ q ∈ c, decode (px_b pt_r217) q.1 = .ok q.2 := by decide +kernel
set_option maxRecDepth 100000 in
theorem pt_d218 : ∀ c ∈ pt_c218, ∀ q ∈ c, decode (px_b pt_r218) q.1 = .ok q.2 := by decide +kernel
set_option maxRecDepth 100000 in
theorem pt_d219 : ∀ c ∈ pt_c219, ∀ q ∈ c, decode (px_b pt_r219) q.1 = .ok q.2 := by decide +kernel
set_option maxRecDepth 100000 in
theorem pt_d220 : ∀ c ∈ pt_c220, ∀ q ∈ c, decode (px_b pt_r220) q.1 = .ok q.2 := by decide +kernel
set_option maxRecDepth 100000 in
theorem pt_d221 : ∀ c ∈ pt_c221, ∀ q ∈ c, decode (px_b pt_r221) q.1 = .ok q.2 := by decide +kernel
set_option maxRecDepth 100000 in
theorem pt_d222 : ∀ c ∈ pt_c222, ∀ q ∈ c, decode (px_b pt_r222) q.1 = .ok q.2 := by decide +kernel
set_option maxRecDepth 100000 in
theorem pt_d223 : ∀ c ∈ pt_c223, ∀ q ∈ c, decode (px_b pt_r223) q.1 = .ok q.2 := by decide +kernel
set_option maxRecDepth 100000 in
theorem pt_d224 : ∀ c ∈ pt_c224, ∀ q ∈ c, decode (px_b pt_r224) q.1 = .ok q.2 := by decide +kernel
set_option maxRecDepth 100000 in
theorem pt_d225 : ∀ c ∈ pt_c225, ∀ q ∈ c, decode (px_b pt_r225) q.1 = .ok q.2 := by decide +kernel
set_option maxRecDepth 100000 in
theorem pt_d226 : ∀ c ∈ pt_c226, ∀ q ∈ c, decode (px_b pt_r226) q.1 = .ok q.2 := by decide +kernel
set_option maxRecDepth 100000 in
theorem pt_d227 : ∀ c ∈ pt_c227, ∀ q ∈ c, decode (px_b pt_r227) q.1 = .ok q.2 := by decide +kernel
set_option maxRecDepth 100000 in
theorem pt_d228 : ∀ c ∈ pt_c228, ∀ q ∈ c, decode (px_b pt_r228) q.1 = .ok q.2 := by decide +kernel
set_option maxRecDepth 100000 in
theorem pt_d229 : ∀ c ∈ pt_c229, ∀ q ∈ c, decode (px_b pt_r229) q.1 = .ok q.2 := by decide +kernel
set_option maxRecDepth 100000 in
theorem pt_d230 : ∀ c ∈ pt_c230, ∀ q ∈ c, decode (px_b pt_r230) q.1 = .ok q.2 := by decide +kernel
set_option maxRecDepth 100000 in
theorem pt_d231 : ∀ c ∈ pt_c231, ∀ q ∈ c, decode (px_b pt_r231) q.1 = .ok q.2 := by decide +kernel
set_option maxRecDepth 100000 in
theorem pt_d232 : ∀ c ∈ pt_c232, ∀ q ∈ c, decode (px_b pt_r232) q.1 = .ok q.2 := by decide +kernel
set_option maxRecDepth 100000 in
theorem pt_d233 : ∀ c ∈ pt_c233, ∀ q ∈ c, decode (px_b pt_r233) q.1 = .ok q.2 := by decide +kernel
set_option maxRecDepth 100000 in
theorem pt_d234 : ∀ c ∈ pt_c234, ∀ q ∈ c, decode (px_b pt_r234) q.1 = .ok q.2 := by decide +kernel
set_option maxRecDepth 100000 in
theorem pt_d235 : ∀ c ∈ pt_c235, ∀ q ∈ c, decode (px_b pt_r235) q.1 = .ok q.2 := by decide +kernel
set_option maxRecDepth 100000 in
theorem pt_d236 : ∀ c ∈ pt_c236, ∀ q ∈ c, decode (px_b pt_r236) q.1 = .ok q.2 := by decide +kernel
set_option maxRecDepth 100000 in
theorem pt_d237 : ∀ c ∈ pt_c237, ∀ q ∈ c, decode (px_b pt_r237) q.1 = .ok q.2 := by decide +kernel
set_option maxRecDepth 100000 in
theorem pt_d238 : ∀ c ∈ pt_c238, ∀ q ∈ c, decode (px_b pt_r238) q.1 = .ok q.2 := by decide +kernel
set_option maxRecDepth 100000 in
theorem pt_d239_0 : ∀ q ∈ pt_c239_0, decode (px_b pt_r239) q.1 = .ok q.2 := by decide +kernel
set_option maxRecDepth 100000 in
theorem pt_d239_1 : ∀ q ∈ pt_c239_1, decode (px_b pt_r239) q.1 = .ok q.2 := by decide +kernel
set_option maxRecDepth 100000 in
theorem pt_d239_2 : ∀ q ∈ pt_c239_2, decode (px_b pt_r239) q.1 = .ok q.2 := by decide +kernel
set_option maxRecDepth 100000 in
theorem pt_d239_3 : ∀ q ∈ pt_c239_3, decode (px_b pt_r239) q.1 = .ok q.2 := by decide +kernel
set_option maxRecDepth 100000 in
theorem pt_d239_4 : ∀ q ∈ pt_c239_4, decode (px_b pt_r239) q.1 = .ok q.2 := by decide +kernel
set_option maxRecDepth 100000 in
theorem pt_d239_5 : ∀ q ∈ pt_c239_5, decode (px_b pt_r239) q.1 = .ok q.2 := by decide +kernel
set_option maxRecDepth 100000 in
theorem pt_d239 : ∀ c ∈ pt_c239, ∀ q ∈ c, decode (px_b pt_r239) q.1 = .ok q.2 := List.forall_mem_cons.mpr ⟨pt_d239_0, List.forall_mem_cons.mpr ⟨pt_d239_1, List.forall_mem_cons.mpr ⟨pt_d239_2, List.forall_mem_cons.mpr ⟨pt_d239_3, List.forall_mem_cons.mpr ⟨pt_d239_4, List.forall_mem_cons.mpr ⟨pt_d239_5, fun _ h => absurd h List.not_mem_nil⟩⟩⟩⟩⟩⟩
set_option maxRecDepth 100000 in
theorem pt_d240 : ∀ c ∈ pt_c240, ∀ q ∈ c, decode (px_b pt_r240) q.1 = .ok q.2 := by decide +kernel
set_option maxRecDepth 100000 in
theorem pt_d241 : ∀ c ∈ pt_c241, ∀ q ∈ c, decode (px_b pt_r241) q.1 = .ok q.2 := by decide +kernel
set_option maxRecDepth 100000 in
theorem pt_d242 : ∀ c ∈ pt_c242, ∀ q ∈ c, decode (px_b pt_r242) q.1 = .ok q.2 := by decide +kernel
set_option maxRecDepth 100000 in
theorem pt_d243 : ∀ c ∈ pt_c243, ∀ q ∈ c, decode (px_b pt_r243) q.1 = .ok q.2 := by decide +kernel
set_option maxRecDepth 100000 in
theorem pt_d244 : ∀ c ∈ pt_c244, ∀ q ∈ c, decode (px_b pt_r244) q.1 = .ok q.2 := by decide +kernel
set_option maxRecDepth 100000 in
theorem pt_d245 : ∀ c ∈ pt_c245, ∀ q ∈ c, decode (px_b pt_r245) q.1 = .ok q.2 := by decide +kernel
set_option maxRecDepth 100000 in
theorem pt_d246 : ∀ c ∈ pt_c246, ∀ q ∈ c, decode (px_b pt_r246) q.1 = .ok q.2 := by decide +kernel
set_option maxRecDepth 100000 in
theorem pt_d247 : ∀ c ∈ pt_c247, ∀ q ∈ c, decode (px_b pt_r247) q.1 = .ok q.2 := by decide +kernel
set_option maxRecDepth 100000 in
theorem pt_d248_0 : ∀ q ∈ pt_c248_0, decode (px_b pt_r248) q.1 = .ok q.2 := by decide +kernel
set_option maxRecDepth 100000 in
theorem pt_d248_1 : ∀ q ∈ pt_c248_1, decode (px_b pt_r248) q.1 = .ok q.2 := by decide +kernel
set_option maxRecDepth 100000 in
theorem pt_d248_2 : ∀ q ∈ pt_c248_2, decode (px_b pt_r248) q.1 = .ok q.2 := by decide +kernel
set_option maxRecDepth 100000 in
theorem pt_d248_3 : ∀ q ∈ pt_c248_3, decode (px_b pt_r248) q.1 = .ok q.2 := by decide +kernel
set_option maxRecDepth 100000 in
theorem pt_d248_4 : ∀ q ∈ pt_c248_4, decode (px_b pt_r248) q.1 = .ok q.2 := by decide +kernel
set_option maxRecDepth 100000 in
theorem pt_d248 : ∀ c ∈ pt_c248, ∀ q ∈ c, decode (px_b pt_r248) q.1 = .ok q.2 := List.forall_mem_cons.mpr ⟨pt_d248_0, List.forall_mem_cons.mpr ⟨pt_d248_1, List.forall_mem_cons.mpr ⟨pt_d248_2, List.forall_mem_cons.mpr ⟨pt_d248_3, List.forall_mem_cons.mpr ⟨pt_d248_4, fun _ h => absurd h List.not_mem_nil⟩⟩⟩⟩⟩
set_option maxRecDepth 100000 in
theorem pt_d249 : ∀ c ∈ pt_c249, ∀ q ∈ c, decode (px_b pt_r249) q.1 = .ok q.2 := by decide +kernel
set_option maxRecDepth 100000 in
theorem pt_d250 : ∀ c ∈ pt_c250, ∀ q ∈ c, decode (px_b pt_r250) q.1 = .ok q.2 := by decide +kernel
set_option maxRecDepth 100000 in
theorem pt_d251 : ∀ c ∈ pt_c251, ∀ q ∈ c, decode (px_b pt_r251) q.1 = .ok q.2 := by decide +kernel
set_option maxRecDepth 100000 in
theorem pt_d252 : ∀ c ∈ pt_c252, ∀ q ∈ c, decode (px_b pt_r252) q.1 = .ok q.2 := by decide +kernel
set_option maxRecDepth 100000 in
theorem pt_d253 : ∀ c ∈ pt_c253, ∀ q ∈ c, decode (px_b pt_r253) q.1 = .ok q.2 := by decide +kernel
set_option maxRecDepth 100000 in
theorem pt_d254 : ∀ c ∈ pt_c254, ∀ q ∈ c, decode (px_b pt_r254) q.1 = .ok q.2 := by decide +kernel
set_option maxRecDepth 100000 in
theorem pt_d255 : ∀ c ∈ pt_c255, ∀ q ∈ c, decode (px_b pt_r255) q.1 = .ok q.2 := by decide +kernel
set_option maxRecDepth 100000 in
theorem pt_d256 : ∀ c ∈ pt_c256, ∀ q ∈ c, decode (px_b pt_r256) q.1 = .ok q.2 := by decide +kernel
set_option maxRecDepth 100000 in
theorem pt_d257 : ∀ c ∈ pt_c257, ∀ q ∈ c, decode (px_b pt_r257) q.1 = .ok q.2 := by decide +kernel
set_option maxRecDepth 100000 in
theorem pt_d258 : ∀ c ∈ pt_c258, ∀ q ∈ c, decode (px_b pt_r258) q.1 = .ok q.2 := by decide +kernel
set_option maxRecDepth 100000 in
theorem pt_d259 : ∀ c ∈ pt_c259, ∀ q ∈ c, decode (px_b pt_r259) q.1 = .ok q.2 := by decide +kernel
set_option maxRecDepth 100000 in
theorem pt_d260 : ∀ c ∈ pt_c260, ∀ q ∈ c, decode (px_b pt_r260) q.1 = .ok q.2 := by decide +kernel
set_option maxRecDepth 100000 in
theorem pt_d261 : ∀ c ∈ pt_c261, ∀ q ∈ c, decode (px_b pt_r261) q.1 = .ok q.2 := by decide +kernel
set_option maxRecDepth 100000 in
theorem pt_d262 : ∀ c ∈ pt_c262, ∀ q ∈ c, decode (px_b pt_r262) q.1 = .ok q.2 := by decide +kernel
set_option maxRecDepth 100000 in
theorem pt_d263 : ∀ c ∈ pt_c263, ∀ q ∈ c, decode (px_b pt_r263) q.1 = .ok q.2 := by decide +kernel
set_option maxRecDepth 100000 in
theorem pt_d264 : ∀ c ∈ pt_c264, ∀ q ∈ c, decode (px_b pt_r264) q.1 = .ok q.2 := by decide +kernel
set_option maxRecDepth 100000 in
theorem pt_d265 : ∀ c ∈ pt_c265, ∀ q ∈ c, decode (px_b pt_r265) q.1 = .ok q.2 := by decide +kernel
set_option maxRecDepth 100000 in
theorem pt_d266 : ∀ c ∈ pt_c266, ∀ q ∈ c, decode (px_b pt_r266) q.1 = .ok q.2 := by decide +kernel
set_option maxRecDepth 100000 in
theorem pt_d267 : ∀ c ∈ pt_c267, ∀ q ∈ c, decode (px_b pt_r267) q.1 = .ok q.2 := by decide +kernel
set_option maxRecDepth 100000 in
theorem pt_d268 : ∀ c ∈ pt_c268, ∀ q ∈ c, decode (px_b pt_r268) q.1 = .ok q.2 := by decide +kernel
set_option maxRecDepth 100000 in
theorem pt_d269 : ∀ c ∈ pt_c269, ∀ q ∈ c, decode (px_b pt_r269) q.1 = .ok q.2 := by decide +kernel
set_option maxRecDepth 100000 in
theorem pt_d270 : ∀ c ∈ pt_c270, ∀ q ∈ c, decode (px_b pt_r270) q.1 = .ok q.2 := by decide +kernel
set_option maxRecDepth 100000 in
theorem pt_d271 : ∀ c ∈ pt_c271, ∀ q ∈ c, decode (px_b pt_r271) q.1 = .ok q.2 := by decide +kernel
set_option maxRecDepth 100000 in
theorem pt_d272 : ∀ c ∈ pt_c272, ∀ q ∈ c, decode (px_b pt_r272) q.1 = .ok q.2 := by decide +kernel
set_option maxRecDepth 100000 in
theorem pt_d273 : ∀ c ∈ pt_c273, ∀ q ∈ c, decode (px_b pt_r273) q.1 = .ok q.2 := by decide +kernel
set_option maxRecDepth 100000 in
theorem pt_d274 : ∀ c ∈ pt_c274, ∀ q ∈ c, decode (px_b pt_r274) q.1 = .ok q.2 := by decide +kernel
set_option maxRecDepth 100000 in
theorem pt_d275 : ∀ c ∈ pt_c275, ∀ q ∈ c, decode (px_b pt_r275) q.1 = .ok q.2 := by decide +kernel
set_option maxRecDepth 100000 in
theorem pt_d276 : ∀ c ∈ pt_c276, ∀ q ∈ c, decode (px_b pt_r276) q.1 = .ok q.2 := by decide +kernel
set_option maxRecDepth 100000 in
theorem pt_d277 : ∀ c ∈ pt_c277, ∀ q ∈ c, decode (px_b pt_r277) q.1 = .ok q.2 := by decide +kernel
set_option maxRecDepth 100000 in
theorem pt_d278 : ∀ c ∈ pt_c278, ∀ q ∈ c, decode (px_b pt_r278) q.1 = .ok q.2 := by decide +kernel
set_option maxRecDepth 100000 in
theorem pt_d279 : ∀ c ∈ pt_c279, ∀ q ∈ c, decode (px_b pt_r279) q.1 = .ok q.2 := by decide +kernel

set_option maxRecDepth 100000 in
theorem pt_d70 : ∀ c ∈ pt_c70, ∀ q ∈ c, decode (px_b pt_r70) q.1 = .ok q.2 := by decide +kernel
set_option maxRecDepth 100000 in
theorem pt_d71 : ∀ c ∈ pt_c71, ∀ q ∈ c, decode (px_b pt_r71) q.1 = .ok q.2 := by decide +kernel
set_option maxRecDepth 100000 in
theorem pt_d72 : ∀ c ∈ pt_c72, ∀ q ∈ c, decode (px_b pt_r72) q.1 = .ok q.2 := by decide +kernel
set_option maxRecDepth 100000 in
theorem pt_d73 : ∀ c ∈ pt_c73, ∀ q ∈ c, decode (px_b pt_r73) q.1 = .ok q.2 := by decide +kernel
set_option maxRecDepth 100000 in
theorem pt_d74 : ∀ c ∈ pt_c74, ∀ q ∈ c, decode (px_b pt_r74) q.1 = .ok q.2 := by decide +kernel
set_option maxRecDepth 100000 in
theorem pt_d75 : ∀ c ∈ pt_c75, ∀ q ∈ c, decode (px_b pt_r75) q.1 = .ok q.2 := by decide +kernel
set_option maxRecDepth 100000 in
theorem pt_d76 : ∀ c ∈ pt_c76, ∀ q ∈ c, decode (px_b pt_r76) q.1 = .ok q.2 := by decide +kernel
set_option maxRecDepth 100000 in
theorem pt_d77 : ∀ c ∈ pt_c77, ∀ q ∈ c, decode (px_b pt_r77) q.1 = .ok q.2 := by decide +kernel
set_option maxRecDepth 100000 in
theorem pt_d78_0 : ∀ q ∈ pt_c78_0, decode (px_b pt_r78) q.1 = .ok q.2 := by decide +kernel
set_option maxRecDepth 100000 in
theorem pt_d78_1 : ∀ q ∈ pt_c78_1, decode (px_b pt_r78) q.1 = .ok q.2 := by decide +kernel
set_option maxRecDepth 100000 in
theorem pt_d78_2 : ∀ q ∈ pt_c78_2, decode (px_b pt_r78) q.1 = .ok q.2 := by decide +kernel
set_option maxRecDepth 100000 in
theorem pt_d78_3 : ∀ q ∈ pt_c78_3, decode (px_b pt_r78) q.1 = .ok q.2 := by decide +kernel
set_option maxRecDepth 100000 in
theorem pt_d78_4 : ∀ q ∈ pt_c78_4, decode (px_b pt_r78) q.1 = .ok q.2 := by decide +kernel
set_option maxRecDepth 100000 in
theorem pt_d78 : ∀ c ∈ pt_c78, ∀ q ∈ c, decode (px_b pt_r78) q.1 = .ok q.2 := List.forall_mem_cons.mpr ⟨pt_d78_0, List.forall_mem_cons.mpr ⟨pt_d78_1, List.forall_mem_cons.mpr ⟨pt_d78_2, List.forall_mem_cons.mpr ⟨pt_d78_3, List.forall_mem_cons.mpr ⟨pt_d78_4, fun _ h => absurd h List.not_mem_nil⟩⟩⟩⟩⟩
set_option maxRecDepth 100000 in
theorem pt_d79 : ∀ c ∈ pt_c79, ∀ q ∈ c, decode (px_b pt_r79) q.1 = .ok q.2 := by decide +kernel
set_option maxRecDepth 100000 in
theorem pt_d80 : ∀ c ∈ pt_c80, ∀ q ∈ c, decode (px_b pt_r80) q.1 = .ok q.2 := by decide +kernel
set_option maxRecDepth 100000 in
theorem pt_d81 : ∀ c ∈ pt_c81, ∀ q ∈ c, decode (px_b pt_r81) q.1 = .ok q.2 := by decide +kernel
set_option maxRecDepth 100000 in
theorem pt_d82 : ∀ c ∈ pt_c82, ∀ q ∈ c, decode (px_b pt_r82) q.1 = .ok q.2 := by decide +kernel
set_option maxRecDepth 100000 in
theorem pt_d83 : ∀ c ∈ pt_c83, ∀ q ∈ c, decode (px_b pt_r83) q.1 = .ok q.2 := by decide +kernel
set_option maxRecDepth 100000 in
theorem pt_d84 : ∀ c ∈ pt_c84, ∀ q ∈ c, decode (px_b pt_r84) q.1 = .ok q.2 := by decide +kernel
set_option maxRecDepth 100000 in
theorem pt_d85 : ∀ c ∈ pt_c85, ∀ q ∈ c, decode (px_b pt_r85) q.1 = .ok q.2 := by decide +kernel
set_option maxRecDepth 100000 in
theorem pt_d86 : ∀ c ∈ pt_c86, ∀ q ∈ c, decode (px_b pt_r86) q.1 = .ok q.2 := by decide +kernel
set_option maxRecDepth 100000 in
theorem pt_d87 : ∀ c ∈ pt_c87, ∀ q ∈ c, decode (px_b pt_r87) q.1 = .ok q.2 := by decide +kernel
set_option maxRecDepth 100000 in
theorem pt_d88 : ∀ c ∈ pt_c88, ∀ q ∈ c, decode (px_b pt_r88) q.1 = .ok q.2 := by decide +kernel
set_option maxRecDepth 100000 in
theorem pt_d89 : ∀ c ∈ pt_c89, ∀ q ∈ c, decode (px_b pt_r89) q.1 = .ok q.2 := by decide +kernel
set_option maxRecDepth 100000 in
theorem pt_d90 : ∀ c ∈ pt_c90, ∀ q ∈ c, decode (px_b pt_r90) q.1 = .ok q.2 := by decide +kernel
set_option maxRecDepth 100000 in
theorem pt_d91 : ∀ c ∈ pt_c91, ∀ q ∈ c, decode (px_b pt_r91) q.1 = .ok q.2 := by decide +kernel
set_option maxRecDepth 100000 in
theorem pt_d92 : ∀ c ∈ pt_c92, ∀ q ∈ c, decode (px_b pt_r92) q.1 = .ok q.2 := by decide +kernel
set_option maxRecDepth 100000 in
theorem pt_d93 : ∀ c ∈ pt_c93, ∀ q ∈ c, decode (px_b pt_r93) q.1 = .ok q.2 := by decide +kernel
set_option maxRecDepth 100000 in
theorem pt_d94 : ∀ c ∈ pt_c94, ∀ q ∈ c, decode (px_b pt_r94) q.1 = .ok q.2 := by decide +kernel
set_option maxRecDepth 100000 in
theorem pt_d95 : ∀ c ∈ pt_c95, ∀ q ∈ c, decode (px_b pt_r95) q.1 = .ok q.2 := by decide +kernel
set_option maxRecDepth 100000 in
theorem pt_d96 : ∀ c ∈ pt_c96, ∀ q ∈ c, decode (px_b pt_r96) q.1 = .ok q.2 := by decide +kernel
set_option maxRecDepth 100000 in
theorem pt_d97 : ∀ c ∈ pt_c97, ∀ q ∈ c, decode (px_b pt_r97) q.1 = .ok q.2 := by decide +kernel
set_option maxRecDepth 100000 in
theorem pt_d98 : ∀ c ∈ pt_c98, ∀ q ∈ c, decode (px_b pt_r98) q.1 = .ok q.2 := by decide +kernel
set_option maxRecDepth 100000 in
theorem pt_d99 : ∀ c ∈ pt_c99, ∀ q ∈ c, decode (px_b pt_r99) q.1 = .ok q.2 := by decide +kernel
set_option maxRecDepth 100000 in
theorem pt_d100 : ∀ c ∈ pt_c100, ∀ q ∈ c, decode (px_b pt_r100) q.1 = .ok q.2 := by decide +kernel
set_option maxRecDepth 100000 in
theorem pt_d101 : ∀ c ∈ pt_c101, ∀ q ∈ c, decode (px_b pt_r101) q.1 = .ok q.2 := by decide +kernel
set_option maxRecDepth 100000 in
theorem pt_d102 : ∀ c ∈ pt_c102, ∀ q ∈ c, decode (px_b pt_r102) q.1 = .ok q.2 := by decide +kernel
set_option maxRecDepth 100000 in
theorem pt_d103 : ∀ c ∈ pt_c103, ∀ q ∈ c, decode (px_b pt_r103) q.1 = .ok q.2 := by decide +kernel
set_option maxRecDepth 100000 in
theorem pt_d104 : ∀ c ∈ pt_c104, ∀ q ∈ c, decode (px_b pt_r104) q.1 = .ok q.2 := by decide +kernel
set_option maxRecDepth 100000 in
theorem pt_d105 : ∀ c ∈ pt_c105, ∀ q ∈ c, decode (px_b pt_r105) q.1 = .ok q.2 := by decide +kernel
set_option maxRecDepth 100000 in
theorem pt_d106 : ∀ c ∈ pt_c106, ∀ q ∈ c, decode (px_b pt_r106) q.1 = .ok q.2 := by decide +kernel
set_option maxRecDepth 100000 in
theorem pt_d107 : ∀ c ∈ pt_c107, ∀ q ∈ c, decode (px_b pt_r107) q.1 = .ok q.2 := by decide +kernel
set_option maxRecDepth 100000 in
theorem pt_d108 : ∀ c ∈ pt_c108, ∀ q ∈ c, decode (px_b pt_r108) q.1 = .ok q.2 := by decide +kernel
set_option maxRecDepth 100000 in
theorem pt_d109 : ∀ c ∈ pt_c109, ∀ q ∈ c, decode (px_b pt_r109) q.1 = .ok q.2 := by decide +kernel
set_option maxRecDepth 100000 in
theorem pt_d110 : ∀ c ∈ pt_c110, ∀ q ∈ c, decode (px_b pt_r110) q.1 = .ok q.2 := by decide +kernel
set_option maxRecDepth 100000 in
theorem pt_d111 : ∀ c ∈ pt_c111, ∀ q ∈ c, decode (px_b pt_r111) q.1 = .ok q.2 := by decide +kernel
set_option maxRecDepth 100000 in
theorem pt_d112 : ∀ c ∈ pt_c112, ∀ q ∈ c, decode (px_b pt_r112) q.1 = .ok q.2 := by decide +kernel
set_option maxRecDepth 100000 in
theorem pt_d113 : ∀ c ∈ pt_c113, ∀ q ∈ c, decode (px_b pt_r113) q.1 = .ok q.2 := by decide +kernel
set_option maxRecDepth 100000 in
theorem pt_d114 : ∀ c ∈ pt_c114, ∀ q ∈ c, decode (px_b pt_r114) q.1 = .ok q.2 := by decide +kernel
set_option maxRecDepth 100000 in
theorem pt_d115 : ∀ c ∈ pt_c115, ∀ q ∈ c, decode (px_b pt_r115) q.1 = .ok q.2 := by decide +kernel
set_option maxRecDepth 100000 in
theorem pt_d116 : ∀ c ∈ pt_c116, ∀ q ∈ c, decode (px_b pt_r116) q.1 = .ok q.2 := by decide +kernel
set_option maxRecDepth 100000 in
theorem pt_d117 : ∀ c ∈ pt_c117, ∀ q ∈ c, decode (px_b pt_r117) q.1 = .ok q.2 := by decide +kernel
set_option maxRecDepth 100000 in
theorem pt_d118 : ∀ c ∈ pt_c118, ∀ q ∈ c, decode (px_b pt_r118) q.1 = .ok q.2 := by decide +kernel
set_option maxRecDepth 100000 in
theorem pt_d119 : ∀ c ∈ pt_c119, ∀ q ∈ c, decode (px_b pt_r119) q.1 = .ok q.2 := by decide +kernel
set_option maxRecDepth 100000 in
theorem pt_d120 : ∀ c ∈ pt_c120, ∀ q ∈ c, decode (px_b pt_r120) q.1 = .ok q.2 := by decide +kernel
set_option maxRecDepth 100000 in
theorem pt_d121 : ∀ c ∈ pt_c121, ∀ q ∈ c, decode (px_b pt_r121) q.1 = .ok q.2 := by decide +kernel
set_option maxRecDepth 100000 in
theorem pt_d122 : ∀ c ∈ pt_c122, ∀ q ∈ c, decode (px_b pt_r122) q.1 = .ok q.2 := by decide +kernel
set_option maxRecDepth 100000 in
theorem pt_d123 : ∀ c ∈ pt_c123, ∀ q ∈ c, decode (px_b pt_r123) q.1 = .ok q.2 := by decide +kernel
set_option maxRecDepth 100000 in
theorem pt_d124 : ∀ c ∈ pt_c124, ∀ q ∈ c, decode (px_b pt_r124) q.1 = .ok q.2 := by decide +kernel
set_option maxRecDepth 100000 in
theorem pt_d125 : ∀ c ∈ pt_c125, ∀ q ∈ c, decode (px_b pt_r125) q.1 = .ok q.2 := by decide +kernel
set_option maxRecDepth 100000 in
theorem pt_d126 : ∀ c ∈ pt_c126, ∀ q ∈ c, decode (px_b pt_r126) q.1 = .ok q.2 := by decide +kernel
set_option maxRecDepth 100000 in
theorem pt_d127 : ∀ c ∈ pt_c127, ∀ q ∈ c, decode (px_b pt_r127) q.1 = .ok q.2 := by decide +kernel
set_option maxRecDepth 100000 in
theorem pt_d128 : ∀ c ∈ pt_c128, ∀ q ∈ c, decode (px_b pt_r128) q.1 = .ok q.2 := by decide +kernel
set_option maxRecDepth 100000 in
theorem pt_d129_0 : ∀ q ∈ pt_c129_0, decode (px_b pt_r129) q.1 = .ok q.2 := by decide +kernel
set_option maxRecDepth 100000 in
theorem pt_d129_1 : ∀ q ∈ pt_c129_1, decode (px_b pt_r129) q.1 = .ok q.2 := by decide +kernel
set_option maxRecDepth 100000 in
theorem pt_d129_2 : ∀ q ∈ pt_c129_2, decode (px_b pt_r129) q.1 = .ok q.2 := by decide +kernel
set_option maxRecDepth 100000 in
theorem pt_d129_3 : ∀ q ∈ pt_c129_3, decode (px_b pt_r129) q.1 = .ok q.2 := by decide +kernel
set_option maxRecDepth 100000 in
theorem pt_d129_4 : ∀ q ∈ pt_c129_4, decode (px_b pt_r129) q.1 = .ok q.2 := by decide +kernel
set_option maxRecDepth 100000 in
theorem pt_d129_5 : ∀ q ∈ pt_c129_5, decode (px_b pt_r129) q.1 = .ok q.2 := by decide +kernel
set_option maxRecDepth 100000 in
theorem pt_d129 : ∀ c ∈ pt_c129, ∀ q ∈ c, decode (px_b pt_r129) q.1 = .ok q.2 := List.forall_mem_cons.mpr ⟨pt_d129_0, List.forall_mem_cons.mpr ⟨pt_d129_1, List.forall_mem_cons.mpr ⟨pt_d129_2, List.forall_mem_cons.mpr ⟨pt_d129_3, List.forall_mem_cons.mpr ⟨pt_d129_4, List.forall_mem_cons.mpr ⟨pt_d129_5, fun _ h => absurd h List.not_mem_nil⟩⟩⟩⟩⟩⟩
set_option maxRecDepth 100000 in
theorem pt_d130 : ∀ c ∈ pt_c130, ∀ q ∈ c, decode (px_b pt_r130) q.1 = .ok q.2 := by decide +kernel
set_option maxRecDepth 100000 in
theorem pt_d131 : ∀ c ∈ pt_c131, ∀ q ∈ c, decode (px_b pt_r131) q.1 = .ok q.2 := by decide +kernel
set_option maxRecDepth 100000 in
theorem pt_d132 : ∀ c ∈ pt_c132, ∀ q ∈ c, decode (px_b pt_r132) q.1 = .ok q.2 := by decide +kernel
set_option maxRecDepth 100000 in
theorem pt_d133 : ∀ c ∈ pt_c133, ∀ q ∈ c, decode (px_b pt_r133) q.1 = .ok q.2 := by decide +kernel
set_option maxRecDepth 100000 in
theorem pt_d134 : ∀ c ∈ pt_c134, ∀ q ∈ c, decode (px_b pt_r134) q.1 = .ok q.2 := by decide +kernel
set_option maxRecDepth 100000 in
theorem pt_d135 : ∀ c ∈ pt_c135, ∀ q ∈ c, decode (px_b pt_r135) q.1 = .ok q.2 := by decide +kernel
set_option maxRecDepth 100000 in
theorem pt_d136 : ∀ c ∈ pt_c136, ∀ q ∈ c, decode (px_b pt_r136) q.1 = .ok q.2 := by decide +kernel
set_option maxRecDepth 100000 in
theorem pt_d137 : ∀ c ∈ pt_c137, ∀ q ∈ c, decode (px_b pt_r137) q.1 = .ok q.2 := by decide +kernel
set_option maxRecDepth 100000 in
theorem pt_d138_0 : ∀ q ∈ pt_c138_0, decode (px_b pt_r138) q.1 = .ok q.2 := by decide +kernel
set_option maxRecDepth 100000 in
theorem pt_d138_1 : ∀ q ∈ pt_c138_1, decode (px_b pt_r138) q.1 = .ok q.2 := by decide +kernel
set_option maxRecDepth 100000 in
theorem pt_d138_2 : ∀ q ∈ pt_c138_2, decode (px_b pt_r138) q.1 = .ok q.2 := by decide +kernel
set_option maxRecDepth 100000 in
theorem pt_d138_3 : ∀ q ∈ pt_c138_3, decode (px_b pt_r138) q.1 = .ok q.2 := by decide +kernel
set_option maxRecDepth 100000 in
theorem pt_d138_4 : ∀ q ∈ pt_c138_4, decode (px_b pt_r138) q.1 = .ok q.2 := by decide +kernel
set_option maxRecDepth 100000 in
theorem pt_d138 : ∀ c ∈ pt_c138, ∀ q ∈ c, decode (px_b pt_r138) q.1 = .ok q.2 := List.forall_mem_cons.mpr ⟨pt_d138_0, List.forall_mem_cons.mpr ⟨pt_d138_1, List.forall_mem_cons.mpr ⟨pt_d138_2, List.forall_mem_cons.mpr ⟨pt_d138_3, List.forall_mem_cons.mpr ⟨pt_d138_4, fun _ h => absurd h List.not_mem_nil⟩⟩⟩⟩⟩
set_option maxRecDepth 100000 in
theorem pt_d139 : ∀ c ∈ pt_c139, ∀ q ∈ c, decode (px_b pt_r139) q.1 = .ok q.2 := by decide +kernel

set_option maxRecDepth 100000 in
theorem pt_d0 : ∀ c ∈ pt_c0, ∀ q ∈ c, decode (px_b pt_r0) q.1 = .ok q.2 := by decide +kernel
set_option maxRecDepth 100000 in
theorem pt_d1 : ∀ c ∈ pt_c1, ∀ q ∈ c, decode (px_b pt_r1) q.1 = .ok q.2 := by decide +kernel
set_option maxRecDepth 100000 in
theorem pt_d2 : ∀ c ∈ pt_c2, ∀ q ∈ c, decode (px_b pt_r2) q.1 = .ok q.2 := by decide +kernel
set_option maxRecDepth 100000 in
theorem pt_d3 : ∀ c ∈ pt_c3, ∀ q ∈ c, decode (px_b pt_r3) q.1 = .ok q.2 := by decide +kernel
set_option maxRecDepth 100000 in
theorem pt_d4 : ∀ c ∈ pt_c4, ∀ q ∈ c, decode (px_b pt_r4) q.1 = .ok q.2 := by decide +kernel
set_option maxRecDepth 100000 in
theorem pt_d5 : ∀ c ∈ pt_c5, ∀ q ∈ c, decode (px_b pt_r5) q.1 = .ok q.2 := by decide +kernel
set_option maxRecDepth 100000 in
theorem pt_d6 : ∀ c ∈ pt_c6, ∀ q ∈ c, decode (px_b pt_r6) q.1 = .ok q.2 := by decide +kernel
set_option maxRecDepth 100000 in
theorem pt_d7 : ∀ c ∈ pt_c7, ∀ q ∈ c, decode (px_b pt_r7) q.1 = .ok q.2 := by decide +kernel
set_option maxRecDepth 100000 in
theorem pt_d8 : ∀ c ∈ pt_c8, ∀ q ∈ c, decode (px_b pt_r8) q.1 = .ok q.2 := by decide +kernel
set_option maxRecDepth 100000 in
theorem pt_d9 : ∀ c ∈ pt_c9, ∀ q ∈ c, decode (px_b pt_r9) q.1 = .ok q.2 := by decide +kernel
set_option maxRecDepth 100000 in
theorem pt_d10 : ∀ c ∈ pt_c10, ∀ q ∈ c, decode (px_b pt_r10) q.1 = .ok q.2 := by decide +kernel
set_option maxRecDepth 100000 in
theorem pt_d11 : ∀ c ∈ pt_c11, ∀ q ∈ c, decode (px_b pt_r11) q.1 = .ok q.2 := by decide +kernel
set_option maxRecDepth 100000 in
theorem pt_d12 : ∀ c ∈ pt_c12, ∀ q ∈ c, decode (px_b pt_r12) q.1 = .ok q.2 := by decide +kernel
set_option maxRecDepth 100000 in
theorem pt_d13 : ∀ c ∈ pt_c13, ∀ q ∈ c, decode (px_b pt_r13) q.1 = .ok q.2 := by decide +kernel
set_option maxRecDepth 100000 in
theorem pt_d14 : ∀ c ∈ pt_c14, ∀ q ∈ c, decode (px_b pt_r14) q.1 = .ok q.2 := by decide +kernel
set_option maxRecDepth 100000 in
theorem pt_d15 : ∀ c ∈ pt_c15, ∀ q ∈ c, decode (px_b pt_r15) q.1 = .ok q.2 := by decide +kernel
set_option maxRecDepth 100000 in
theorem pt_d16 : ∀ c ∈ pt_c16, ∀ q ∈ c, decode (px_b pt_r16) q.1 = .ok q.2 := by decide +kernel
set_option maxRecDepth 100000 in
theorem pt_d17 : ∀ c ∈ pt_c17, ∀ q ∈ c, decode (px_b pt_r17) q.1 = .ok q.2 := by decide +kernel
set_option maxRecDepth 100000 in
theorem pt_d18 : ∀ c ∈ pt_c18, ∀ q ∈ c, decode (px_b pt_r18) q.1 = .ok q.2 := by decide +kernel
set_option maxRecDepth 100000 in
theorem pt_d19 : ∀ c ∈ pt_c19, ∀ q ∈ c, decode (px_b pt_r19) q.1 = .ok q.2 := by decide +kernel
set_option maxRecDepth 100000 in
theorem pt_d20 : ∀ c ∈ pt_c20, ∀ q ∈ c, decode (px_b pt_r20) q.1 = .ok q.2 := by decide +kernel
set_option maxRecDepth 100000 in
theorem pt_d21 : ∀ c ∈ pt_c21, ∀ q ∈ c, decode (px_b pt_r21) q.1 = .ok q.2 := by decide +kernel
set_option maxRecDepth 100000 in
theorem pt_d22_0 : ∀ q ∈ pt_c22_0, decode (px_b pt_r22) q.1 = .ok q.2 := by decide +kernel
set_option maxRecDepth 100000 in
theorem pt_d22_1 : ∀ q ∈ pt_c22_1, decode (px_b pt_r22) q.1 = .ok q.2 := by decide +kernel
set_option maxRecDepth 100000 in
theorem pt_d22_2 : ∀ q ∈ pt_c22_2, decode (px_b pt_r22) q.1 = .ok q.2 := by decide +kernel
set_option maxRecDepth 100000 in
theorem pt_d22_3 : ∀ q ∈ pt_c22_3, decode (px_b pt_r22) q.1 = .ok q.2 := by decide +kernel
set_option maxRecDepth 100000 in
theorem pt_d22_4 : ∀ q ∈ pt_c22_4, decode (px_b pt_r22) q.1 = .ok q.2 := by decide +kernel
set_option maxRecDepth 100000 in
theorem pt_d22 : ∀ c ∈ pt_c22, ∀ q ∈ c, decode (px_b pt_r22) q.1 = .ok q.2 := List.forall_mem_cons.mpr ⟨pt_d22_0, List.forall_mem_cons.mpr ⟨pt_d22_1, List.forall_mem_cons.mpr ⟨pt_d22_2, List.forall_mem_cons.mpr ⟨pt_d22_3, List.forall_mem_cons.mpr ⟨pt_d22_4, fun _ h => absurd h List.not_mem_nil⟩⟩⟩⟩⟩
set_option maxRecDepth 100000 in
theorem pt_d23 : ∀ c ∈ pt_c23, ∀ q ∈ c, decode (px_b pt_r23) q.1 = .ok q.2 := by decide +kernel
set_option maxRecDepth 100000 in
theorem pt_d24 : ∀ c ∈ pt_c24, ∀ q ∈ c, decode (px_b pt_r24) q.1 = .ok q.2 := by decide +kernel
set_option maxRecDepth 100000 in
theorem pt_d25 : ∀ c ∈ pt_c25, ∀ q ∈ c, decode (px_b pt_r25) q.1 = .ok q.2 := by decide +kernel
set_option maxRecDepth 100000 in
theorem pt_d26 : ∀ c ∈ pt_c26, ∀ q ∈ c, decode (px_b pt_r26) q.1 = .ok q.2 := by decide +kernel
set_option maxRecDepth 100000 in
theorem pt_d27 : ∀ c ∈ pt_c27, ∀ q ∈ c, decode (px_b pt_r27) q.1 = .ok q.2 := by decide +kernel
set_option maxRecDepth 100000 in
theorem pt_d28 : ∀ c ∈ pt_c28, ∀ q ∈ c, decode (px_b pt_r28) q.1 = .ok q.2 := by decide +kernel
set_option maxRecDepth 100000 in
theorem pt_d29 : ∀ c ∈ pt_c29, ∀ q ∈ c, decode (px_b pt_r29) q.1 = .ok q.2 := by decide +kernel
set_option maxRecDepth 100000 in
theorem pt_d30 : ∀ c ∈ pt_c30, ∀ q ∈ c, decode (px_b pt_r30) q.1 = .ok q.2 := by decide +kernel
set_option maxRecDepth 100000 in
theorem pt_d31 : ∀ c ∈ pt_c31, ∀ q ∈ c, decode (px_b pt_r31) q.1 = .ok q.2 := by decide +kernel
set_option maxRecDepth 100000 in
theorem pt_d32 : ∀ c ∈ pt_c32, ∀ q ∈ c, decode (px_b pt_r32) q.1 = .ok q.2 := by decide +kernel
set_option maxRecDepth 100000 in
theorem pt_d33 : ∀ c ∈ pt_c33, ∀ q ∈ c, decode (px_b pt_r33) q.1 = .ok q.2 := by decide +kernel
set_option maxRecDepth 100000 in
theorem pt_d34 : ∀ c ∈ pt_c34, ∀ q ∈ c, decode (px_b pt_r34) q.1 = .ok q.2 := by decide +kernel
set_option maxRecDepth 100000 in
theorem pt_d35_0 : ∀ q ∈ pt_c35_0, decode (px_b pt_r35) q.1 = .ok q.2 := by decide +kernel
set_option maxRecDepth 100000 in
theorem pt_d35_1 : ∀ q ∈ pt_c35_1, decode (px_b pt_r35) q.1 = .ok q.2 := by decide +kernel
set_option maxRecDepth 100000 in
theorem pt_d35_2 : ∀ q ∈ pt_c35_2, decode (px_b pt_r35) q.1 = .ok q.2 := by decide +kernel
set_option maxRecDepth 100000 in
theorem pt_d35_3 : ∀ q ∈ pt_c35_3, decode (px_b pt_r35) q.1 = .ok q.2 := by decide +kernel
set_option maxRecDepth 100000 in
theorem pt_d35_4 : ∀ q ∈ pt_c35_4, decode (px_b pt_r35) q.1 = .ok q.2 := by decide +kernel
set_option maxRecDepth 100000 in
theorem pt_d35 : ∀ c ∈ pt_c35, ∀ q ∈ c, decode (px_b pt_r35) q.1 = .ok q.2 := List.forall_mem_cons.mpr ⟨pt_d35_0, List.forall_mem_cons.mpr ⟨pt_d35_1, List.forall_mem_cons.mpr ⟨pt_d35_2, List.forall_mem_cons.mpr ⟨pt_d35_3, List.forall_mem_cons.mpr ⟨pt_d35_4, fun _ h => absurd h List.not_mem_nil⟩⟩⟩⟩⟩
set_option maxRecDepth 100000 in
theorem pt_d36 : ∀ c ∈ pt_c36, ∀ q ∈ c, decode (px_b pt_r36) q.1 = .ok q.2 := by decide +kernel
set_option maxRecDepth 100000 in
theorem pt_d37 : ∀ c ∈ pt_c37, ∀ q ∈ c, decode (px_b pt_r37) q.1 = .ok q.2 := by decide +kernel
set_option maxRecDepth 100000 in
theorem pt_d38 : ∀ c ∈ pt_c38, ∀ q ∈ c, decode (px_b pt_r38) q.1 = .ok q.2 := by decide +kernel
set_option maxRecDepth 100000 in
theorem pt_d39 : ∀ c ∈ pt_c39, ∀ q ∈ c, decode (px_b pt_r39) q.1 = .ok q.2 := by decide +kernel
set_option maxRecDepth 100000 in
theorem pt_d40 : ∀ c ∈ pt_c40, ∀ q ∈ c, decode (px_b pt_r40) q.1 = .ok q.2 := by decide +kernel
set_option maxRecDepth 100000 in
theorem pt_d41 : ∀ c ∈ pt_c41, ∀ q ∈ c, decode (px_b pt_r41) q.1 = .ok q.2 := by decide +kernel
set_option maxRecDepth 100000 in
theorem pt_d42 : ∀ c ∈ pt_c42, ∀ q ∈ c, decode (px_b pt_r42) q.1 = .ok q.2 := by decide +kernel
set_option maxRecDepth 100000 in
theorem pt_d43 : ∀ c ∈ pt_c43, ∀ q ∈ c, decode (px_b pt_r43) q.1 = .ok q.2 := by decide +kernel
set_option maxRecDepth 100000 in
theorem pt_d44 : ∀ c ∈ pt_c44, ∀ q ∈ c, decode (px_b pt_r44) q.1 = .ok q.2 := by decide +kernel
set_option maxRecDepth 100000 in
theorem pt_d45 : ∀ c ∈ pt_c45, ∀ q ∈ c, decode (px_b pt_r45) q.1 = .ok q.2 := by decide +kernel
set_option maxRecDepth 100000 in
theorem pt_d46 : ∀ c ∈ pt_c46, ∀ q ∈ c, decode (px_b pt_r46) q.1 = .ok q.2 := by decide +kernel
set_option maxRecDepth 100000 in
theorem pt_d47 : ∀ c ∈ pt_c47, ∀ q ∈ c, decode (px_b pt_r47) q.1 = .ok q.2 := by decide +kernel
set_option maxRecDepth 100000 in
theorem pt_d48_0 : ∀ q ∈ pt_c48_0, decode (px_b pt_r48) q.1 = .ok q.2 := by decide +kernel
set_option maxRecDepth 100000 in
theorem pt_d48_1 : ∀ q ∈ pt_c48_1, decode (px_b pt_r48) q.1 = .ok q.2 := by decide +kernel
set_option maxRecDepth 100000 in
theorem pt_d48_2 : ∀ q ∈ pt_c48_2, decode (px_b pt_r48) q.1 = .ok q.2 := by decide +kernel
set_option maxRecDepth 100000 in
theorem pt_d48_3 : ∀ q ∈ pt_c48_3, decode (px_b pt_r48) q.1 = .ok q.2 := by decide +kernel
set_option maxRecDepth 100000 in
theorem pt_d48_4 : ∀ q ∈ pt_c48_4, decode (px_b pt_r48) q.1 = .ok q.2 := by decide +kernel
set_option maxRecDepth 100000 in
theorem pt_d48_5 : ∀ q ∈ pt_c48_5, decode (px_b pt_r48) q.1 = .ok q.2 := by decide +kernel
set_option maxRecDepth 100000 in
theorem pt_d48 : ∀ c ∈ pt_c48, ∀ q ∈ c, decode (px_b pt_r48) q.1 = .ok q.2 := List.forall_mem_cons.mpr ⟨pt_d48_0, List.forall_mem_cons.mpr ⟨pt_d48_1, List.forall_mem_cons.mpr ⟨pt_d48_2, List.forall_mem_cons.mpr ⟨pt_d48_3, List.forall_mem_cons.mpr ⟨pt_d48_4, List.forall_mem_cons.mpr ⟨pt_d48_5, fun _ h => absurd h List.not_mem_nil⟩⟩⟩⟩⟩⟩
set_option maxRecDepth 100000 in
theorem pt_d49 : ∀ c ∈ pt_c49, ∀ q ∈ c, decode (px_b pt_r49) q.1 = .ok q.2 := by decide +kernel
set_option maxRecDepth 100000 in
theorem pt_d50 : ∀ c ∈ pt_c50, ∀ q ∈ c, decode (px_b pt_r50) q.1 = .ok q.2 := by decide +kernel
set_option maxRecDepth 100000 in
theorem pt_d51 : ∀ c ∈ pt_c51, ∀ q ∈ c, decode (px_b pt_r51) q.1 = .ok q.2 := by decide +kernel
set_option maxRecDepth 100000 in
theorem pt_d52 : ∀ c ∈ pt_c52, ∀ q ∈ c, decode (px_b pt_r52) q.1 = .ok q.2 := by decide +kernel
set_option maxRecDepth 100000 in
theorem pt_d53 : ∀ c ∈ pt_c53, ∀ q ∈ c, decode (px_b pt_r53) q.1 = .ok q.2 := by decide +kernel
set_option maxRecDepth 100000 in
theorem pt_d54 : ∀ c ∈ pt_c54, ∀ q ∈ c, decode (px_b pt_r54) q.1 = .ok q.2 := by decide +kernel
set_option maxRecDepth 100000 in
theorem pt_d55 : ∀ c ∈ pt_c55, ∀ q ∈ c, decode (px_b pt_r55) q.1 = .ok q.2 := by decide +kernel
set_option maxRecDepth 100000 in
theorem pt_d56 : ∀ c ∈ pt_c56, ∀ q ∈ c, decode (px_b pt_r56) q.1 = .ok q.2 := by decide +kernel
set_option maxRecDepth 100000 in
theorem pt_d57 : ∀ c ∈ pt_c57, ∀ q ∈ c, decode (px_b pt_r57) q.1 = .ok q.2 := by decide +kernel
set_option maxRecDepth 100000 in
theorem pt_d58_0 : ∀ q ∈ pt_c58_0, decode (px_b pt_r58) q.1 = .ok q.2 := by decide +kernel
set_option maxRecDepth 100000 in
theorem pt_d58_1 : ∀ q ∈ pt_c58_1, decode (px_b pt_r58) q.1 = .ok q.2 := by decide +kernel
set_option maxRecDepth 100000 in
theorem pt_d58_2 : ∀ q ∈ pt_c58_2, decode (px_b pt_r58) q.1 = .ok q.2 := by decide +kernel
set_option maxRecDepth 100000 in
theorem pt_d58_3 : ∀ q ∈ pt_c58_3, decode (px_b pt_r58) q.1 = .ok q.2 := by decide +kernel
set_option maxRecDepth 100000 in
theorem pt_d58_4 : ∀ q ∈ pt_c58_4, decode (px_b pt_r58) q.1 = .ok q.2 := by decide +kernel
set_option maxRecDepth 100000 in
theorem pt_d58_5 : ∀ q ∈ pt_c58_5, decode (px_b pt_r58) q.1 = .ok q.2 := by decide +kernel
set_option maxRecDepth 100000 in
theorem pt_d58_6 : ∀ q ∈ pt_c58_6, decode (px_b pt_r58) q.1 = .ok q.2 := by decide +kernel
set_option maxRecDepth 100000 in
theorem pt_d58_7 : ∀ q ∈ pt_c58_7, decode (px_b pt_r58) q.1 = .ok q.2 := by decide +kernel
set_option maxRecDepth 100000 in
theorem pt_d58 : ∀ c ∈ pt_c58, ∀ q ∈ c, decode (px_b pt_r58) q.1 = .ok q.2 := List.forall_mem_cons.mpr ⟨pt_d58_0, List.forall_mem_cons.mpr ⟨pt_d58_1, List.forall_mem_cons.mpr ⟨pt_d58_2, List.forall_mem_cons.mpr ⟨pt_d58_3, List.forall_mem_cons.mpr ⟨pt_d58_4, List.forall_mem_cons.mpr ⟨pt_d58_5, List.forall_mem_cons.mpr ⟨pt_d58_6, List.forall_mem_cons.mpr ⟨pt_d58_7, fun _ h => absurd h List.not_mem_nil⟩⟩⟩⟩⟩⟩⟩⟩
set_option maxRecDepth 100000 in
theorem pt_d59 : ∀ c ∈ pt_c59, ∀ q ∈ c, decode (px_b pt_r59) q.1 = .ok q.2 := by decide +kernel
set_option maxRecDepth 100000 in
theorem pt_d60 : ∀ c ∈ pt_c60, ∀ q ∈ c, decode (px_b pt_r60) q.1 = .ok q.2 := by decide +kernel
set_option maxRecDepth 100000 in
theorem pt_d61 : ∀ c ∈ pt_c61, ∀ q ∈ c, decode (px_b pt_r61) q.1 = .ok q.2 := by decide +kernel
set_option maxRecDepth 100000 in
theorem pt_d62 : ∀ c ∈ pt_c62, ∀ q ∈ c, decode (px_b pt_r62) q.1 = .ok q.2 := by decide +kernel
set_option maxRecDepth 100000 in
theorem pt_d63 : ∀ c ∈ pt_c63, ∀ q ∈ c, decode (px_b pt_r63) q.1 = .ok q.2 := by decide +kernel
set_option maxRecDepth 100000 in
theorem pt_d64 : ∀ c ∈ pt_c64, ∀ q ∈ c, decode (px_b pt_r64) q.1 = .ok q.2 := by decide +kernel
set_option maxRecDepth 100000 in
theorem pt_d65 : ∀ c ∈ pt_c65, ∀ q ∈ c, decode (px_b pt_r65) q.1 = .ok q.2 := by decide +kernel
set_option maxRecDepth 100000 in
theorem pt_d66 : ∀ c ∈ pt_c66, ∀ q ∈ c, decode (px_b pt_r66) q.1 = .ok q.2 := by decide +kernel
set_option maxRecDepth 100000 in
theorem pt_d67 : ∀ c ∈ pt_c67, ∀ q ∈ c, decode (px_b pt_r67) q.1 = .ok q.2 := by decide +kernel
set_option maxRecDepth 100000 in
theorem pt_d68 : ∀ c ∈ pt_c68, ∀ q ∈ c, decode (px_b pt_r68) q.1 = .ok q.2 := by decide +kernel
set_option maxRecDepth 100000 in
theorem pt_d69 : ∀ c ∈ pt_c69, ∀ q ∈ c, decode (px_b pt_r69) q.1 = .ok q.2 := by decide +kernel

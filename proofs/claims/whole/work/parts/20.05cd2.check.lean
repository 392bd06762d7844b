set_option maxRecDepth 100000 in
theorem pt_d140 : ∀ c ∈ pt_c140, ∀ q ∈ c, decode (px_b pt_r140) q.1 = .ok q.2 := by decide +kernel
set_option maxRecDepth 100000 in
theorem pt_d141 : ∀ c ∈ pt_c141, ∀ q ∈ c, decode (px_b pt_r141) q.1 = .ok q.2 := by decide +kernel
set_option maxRecDepth 100000 in
theorem pt_d142 : ∀ c ∈ pt_c142, ∀ q ∈ c, decode (px_b pt_r142) q.1 = .ok q.2 := by decide +kernel
set_option maxRecDepth 100000 in
theorem pt_d143 : ∀ c ∈ pt_c143, ∀ q ∈ c, decode (px_b pt_r143) q.1 = .ok q.2 := by decide +kernel
set_option maxRecDepth 100000 in
theorem pt_d144 : ∀ c ∈ pt_c144, ∀ q ∈ c, decode (px_b pt_r144) q.1 = .ok q.2 := by decide +kernel
set_option maxRecDepth 100000 in
theorem pt_d145 : ∀ c ∈ pt_c145, ∀ q ∈ c, decode (px_b pt_r145) q.1 = .ok q.2 := by decide +kernel
set_option maxRecDepth 100000 in
theorem pt_d146 : ∀ c ∈ pt_c146, ∀ q ∈ c, decode (px_b pt_r146) q.1 = .ok q.2 := by decide +kernel
set_option maxRecDepth 100000 in
theorem pt_d147 : ∀ c ∈ pt_c147, ∀ q ∈ c, decode (px_b pt_r147) q.1 = .ok q.2 := by decide +kernel
set_option maxRecDepth 100000 in
theorem pt_d148 : ∀ c ∈ pt_c148, ∀ q ∈ c, decode (px_b pt_r148) q.1 = .ok q.2 := by decide +kernel
set_option maxRecDepth 100000 in
theorem pt_d149 : ∀ c ∈ pt_c149, ∀ q ∈ c, decode (px_b pt_r149) q.1 = .ok q.2 := by decide +kernel
set_option maxRecDepth 100000 in
theorem pt_d150_0 : ∀ q ∈ pt_c150_0, decode (px_b pt_r150) q.1 = .ok q.2 := by decide +kernel
set_option maxRecDepth 100000 in
theorem pt_d150_1 : ∀ q ∈ pt_c150_1, decode (px_b pt_r150) q.1 = .ok q.2 := by decide +kernel
set_option maxRecDepth 100000 in
theorem pt_d150_2 : ∀ q ∈ pt_c150_2, decode (px_b pt_r150) q.1 = .ok q.2 := by decide +kernel
set_option maxRecDepth 100000 in
theorem pt_d150_3 : ∀ q ∈ pt_c150_3, decode (px_b pt_r150) q.1 = .ok q.2 := by decide +kernel
set_option maxRecDepth 100000 in
theorem pt_d150_4 : ∀ q ∈ pt_c150_4, decode (px_b pt_r150) q.1 = .ok q.2 := by decide +kernel
set_option maxRecDepth 100000 in
theorem pt_d150 : ∀ c ∈ pt_c150, ∀ q ∈ c, decode (px_b pt_r150) q.1 = .ok q.2 := List.forall_mem_cons.mpr ⟨pt_d150_0, List.forall_mem_cons.mpr ⟨pt_d150_1, List.forall_mem_cons.mpr ⟨pt_d150_2, List.forall_mem_cons.mpr ⟨pt_d150_3, List.forall_mem_cons.mpr ⟨pt_d150_4, fun _ h => absurd h List.not_mem_nil⟩⟩⟩⟩⟩
set_option maxRecDepth 100000 in
theorem pt_d151 : ∀ c ∈ pt_c151, ∀ q ∈ c, decode (px_b pt_r151) q.1 = .ok q.2 := by decide +kernel
set_option maxRecDepth 100000 in
theorem pt_d152 : ∀ c ∈ pt_c152, ∀ q ∈ c, decode (px_b pt_r152) q.1 = .ok q.2 := by decide +kernel
set_option maxRecDepth 100000 in
theorem pt_d153 : ∀ c ∈ pt_c153, ∀ q ∈ c, decode (px_b pt_r153) q.1 = .ok q.2 := by decide +kernel
set_option maxRecDepth 100000 in
theorem pt_d154 : ∀ c ∈ pt_c154, ∀ q ∈ c, decode (px_b pt_r154) q.1 = .ok q.2 := by decide +kernel
set_option maxRecDepth 100000 in
theorem pt_d155 : ∀ c ∈ pt_c155, ∀ q ∈ c, decode (px_b pt_r155) q.1 = .ok q.2 := by decide +kernel
set_option maxRecDepth 100000 in
theorem pt_d156 : ∀ c ∈ pt_c156, ∀ q ∈ c, decode (px_b pt_r156) q.1 = .ok q.2 := by decide +kernel
set_option maxRecDepth 100000 in
theorem pt_d157 : ∀ c ∈ pt_c157, ∀ q ∈ c, decode (px_b pt_r157) q.1 = .ok q.2 := by decide +kernel
set_option maxRecDepth 100000 in
theorem pt_d158 : ∀ c ∈ pt_c158, ∀ q ∈ c, decode (px_b pt_r158) q.1 = .ok q.2 := by decide +kernel
set_option maxRecDepth 100000 in
theorem pt_d159 : ∀ c ∈ pt_c159, ∀ q ∈ c, decode (px_b pt_r159) q.1 = .ok q.2 := by decide +kernel
set_option maxRecDepth 100000 in
theorem pt_d160 : ∀ c ∈ pt_c160, ∀ q ∈ c, decode (px_b pt_r160) q.1 = .ok q.2 := by decide +kernel
set_option maxRecDepth 100000 in
theorem pt_d161 : ∀ c ∈ pt_c161, ∀ q ∈ c, decode (px_b pt_r161) q.1 = .ok q.2 := by decide +kernel
set_option maxRecDepth 100000 in
theorem pt_d162 : ∀ c ∈ pt_c162, ∀ q ∈ c, decode (px_b pt_r162) q.1 = .ok q.2 := by decide +kernel
set_option maxRecDepth 100000 in
theorem pt_d163 : ∀ c ∈ pt_c163, ∀ q ∈ c, decode (px_b pt_r163) q.1 = .ok q.2 := by decide +kernel
set_option maxRecDepth 100000 in
theorem pt_d164 : ∀ c ∈ pt_c164, ∀ q ∈ c, decode (px_b pt_r164) q.1 = .ok q.2 := by decide +kernel
set_option maxRecDepth 100000 in
theorem pt_d165 : ∀ c ∈ pt_c165, ∀ q ∈ c, decode (px_b pt_r165) q.1 = .ok q.2 := by decide +kernel
set_option maxRecDepth 100000 in
theorem pt_d166 : ∀ c ∈ pt_c166, ∀ q ∈ c, decode (px_b pt_r166) q.1 = .ok q.2 := by decide +kernel
set_option maxRecDepth 100000 in
theorem pt_d167 : ∀ c ∈ pt_c167, ∀ q ∈ c, decode (px_b pt_r167) q.1 = .ok q.2 := by decide +kernel
set_option maxRecDepth 100000 in
theorem pt_d168 : ∀ c ∈ pt_c168, ∀ q ∈ c, decode (px_b pt_r168) q.1 = .ok q.2 := by decide +kernel
set_option maxRecDepth 100000 in
theorem pt_d169_0 : ∀ q ∈ pt_c169_0, decode (px_b pt_r169) q.1 = .ok q.2 := by decide +kernel
set_option maxRecDepth 100000 in
theorem pt_d169_1 : ∀ q ∈ pt_c169_1, decode (px_b pt_r169) q.1 = .ok q.2 := by decide +kernel
set_option maxRecDepth 100000 in
theorem pt_d169_2 : ∀ q ∈ pt_c169_2, decode (px_b pt_r169) q.1 = .ok q.2 := by decide +kernel
set_option maxRecDepth 100000 in
theorem pt_d169_3 : ∀ q ∈ pt_c169_3, decode (px_b pt_r169) q.1 = .ok q.2 := by decide +kernel
set_option maxRecDepth 100000 in
theorem pt_d169_4 : ∀ q ∈ pt_c169_4, decode (px_b pt_r169) q.1 = .ok q.2 := by decide +kernel
set_option maxRecDepth 100000 in
theorem pt_d169_5 : ∀ q ∈ pt_c169_5, decode (px_b pt_r169) q.1 = .ok q.2 := by decide +kernel
set_option maxRecDepth 100000 in
theorem pt_d169 : ∀ c ∈ pt_c169, ∀ q ∈ c, decode (px_b pt_r169) q.1 = .ok q.2 := List.forall_mem_cons.mpr ⟨pt_d169_0, List.forall_mem_cons.mpr ⟨pt_d169_1, List.forall_mem_cons.mpr ⟨pt_d169_2, List.forall_mem_cons.mpr ⟨pt_d169_3, List.forall_mem_cons.mpr ⟨pt_d169_4, List.forall_mem_cons.mpr ⟨pt_d169_5, fun _ h => absurd h List.not_mem_nil⟩⟩⟩⟩⟩⟩
set_option maxRecDepth 100000 in
theorem pt_d170 : ∀ c ∈ pt_c170, ∀ q ∈ c, decode (px_b pt_r170) q.1 = .ok q.2 := by decide +kernel
set_option maxRecDepth 100000 in
theorem pt_d171 : ∀ c ∈ pt_c171, ∀ q ∈ c, decode (px_b pt_r171) q.1 = .ok q.2 := by decide +kernel
set_option maxRecDepth 100000 in
theorem pt_d172 : ∀ c ∈ pt_c172, ∀ q ∈ c, decode (px_b pt_r172) q.1 = .ok q.2 := by decide +kernel
set_option maxRecDepth 100000 in
theorem pt_d173 : ∀ c ∈ pt_c173, ∀ q ∈ c, decode (px_b pt_r173) q.1 = .ok q.2 := by decide +kernel
set_option maxRecDepth 100000 in
theorem pt_d174_0 : ∀ q ∈ pt_c174_0, decode (px_b pt_r174) q.1 = .ok q.2 := by decide +kernel
set_option maxRecDepth 100000 in
theorem pt_d174_1 : ∀ q ∈ pt_c174_1, decode (px_b pt_r174) q.1 = .ok q.2 := by decide +kernel
set_option maxRecDepth 100000 in
theorem pt_d174_2 : ∀ q ∈ pt_c174_2, decode (px_b pt_r174) q.1 = .ok q.2 := by decide +kernel
set_option maxRecDepth 100000 in
theorem pt_d174_3 : ∀ q ∈ pt_c174_3, decode (px_b pt_r174) q.1 = .ok q.2 := by decide +kernel
set_option maxRecDepth 100000 in
theorem pt_d174_4 : ∀ q ∈ pt_c174_4, decode (px_b pt_r174) q.1 = .ok q.2 := by decide +kernel
set_option maxRecDepth 100000 in
theorem pt_d174_5 : ∀ q ∈ pt_c174_5, decode (px_b pt_r174) q.1 = .ok q.2 := by decide +kernel
set_option maxRecDepth 100000 in
theorem pt_d174_6 : ∀ q ∈ pt_c174_6, decode (px_b pt_r174) q.1 = .ok q.2 := by decide +kernel
set_option maxRecDepth 100000 in
theorem pt_d174 : ∀ c ∈ pt_c174, ∀ q ∈ c, decode (px_b pt_r174) q.1 = .ok q.2 := List.forall_mem_cons.mpr ⟨pt_d174_0, List.forall_mem_cons.mpr ⟨pt_d174_1, List.forall_mem_cons.mpr ⟨pt_d174_2, List.forall_mem_cons.mpr ⟨pt_d174_3, List.forall_mem_cons.mpr ⟨pt_d174_4, List.forall_mem_cons.mpr ⟨pt_d174_5, List.forall_mem_cons.mpr ⟨pt_d174_6, fun _ h => absurd h List.not_mem_nil⟩⟩⟩⟩⟩⟩⟩
set_option maxRecDepth 100000 in
theorem pt_d175 : ∀ c ∈ pt_c175, ∀ q ∈ c, decode (px_b pt_r175) q.1 = .ok q.2 := by decide +kernel
set_option maxRecDepth 100000 in
theorem pt_d176 : ∀ c ∈ pt_c176, ∀ q ∈ c, decode (px_b pt_r176) q.1 = .ok q.2 := by decide +kernel
set_option maxRecDepth 100000 in
theorem pt_d177 : ∀ c ∈ pt_c177, ∀ q ∈ c, decode (px_b pt_r177) q.1 = .ok q.2 := by decide +kernel
set_option maxRecDepth 100000 in
theorem pt_d178 : ∀ c ∈ pt_c178, ∀ q ∈ c, decode (px_b pt_r178) q.1 = .ok q.2 := by decide +kernel
set_option maxRecDepth 100000 in
theorem pt_d179 : ∀ c ∈ pt_c179, ∀ q ∈ c, decode (px_b pt_r179) q.1 = .ok q.2 := by decide +kernel
set_option maxRecDepth 100000 in
theorem pt_d180 : ∀ c ∈ pt_c180, ∀ q ∈ c, decode (px_b pt_r180) q.1 = .ok q.2 := by decide +kernel
set_option maxRecDepth 100000 in
theorem pt_d181 : ∀ c ∈ pt_c181, ∀ q ∈ c, decode (px_b pt_r181) q.1 = .ok q.2 := by decide +kernel
set_option maxRecDepth 100000 in
theorem pt_d182 : ∀ c ∈ pt_c182, ∀ q ∈ c, decode (px_b pt_r182) q.1 = .ok q.2 := by decide +kernel
set_option maxRecDepth 100000 in
theorem pt_d183 : ∀ c ∈ pt_c183, ∀ q ∈ c, decode (px_b pt_r183) q.1 = .ok q.2 := by decide +kernel
set_option maxRecDepth 100000 in
theorem pt_d184 : ∀ c ∈ pt_c184, ∀ q ∈ c, decode (px_b pt_r184) q.1 = .ok q.2 := by decide +kernel
set_option maxRecDepth 100000 in
theorem pt_d185 : ∀ c ∈ pt_c185, ∀ q ∈ c, decode (px_b pt_r185) q.1 = .ok q.2 := by decide +kernel
set_option maxRecDepth 100000 in
theorem pt_d186 : ∀ c ∈ pt_c186, ∀ q ∈ c, decode (px_b pt_r186) q.1 = .ok q.2 := by decide +kernel
set_option maxRecDepth 100000 in
theorem pt_d187 : ∀ c ∈ pt_c187, ∀ q ∈ c, decode (px_b pt_r187) q.1 = .ok q.2 := by decide +kernel
set_option maxRecDepth 100000 in
theorem pt_d188 : ∀ c ∈ pt_c188, ∀ q ∈ c, decode (px_b pt_r188) q.1 = .ok q.2 := by decide +kernel
set_option maxRecDepth 100000 in
theorem pt_d189 : ∀ c ∈ pt_c189, ∀ q ∈ c, decode (px_b pt_r189) q.1 = .ok q.2 := by decide +kernel
set_option maxRecDepth 100000 in
theorem pt_d190 : ∀ c ∈ pt_c190, ∀ q ∈ c, decode (px_b pt_r190) q.1 = .ok q.2 := by decide +kernel
set_option maxRecDepth 100000 in
theorem pt_d191 : ∀ c ∈ pt_c191, ∀ q ∈ c, decode (px_b pt_r191) q.1 = .ok q.2 := by decide +kernel
set_option maxRecDepth 100000 in
theorem pt_d192_0 : ∀ q ∈ pt_c192_0, decode (px_b pt_r192) q.1 = .ok q.2 := by decide +kernel
set_option maxRecDepth 100000 in
theorem pt_d192_1 : ∀ q ∈ pt_c192_1, decode (px_b pt_r192) q.1 = .ok q.2 := by decide +kernel
set_option maxRecDepth 100000 in
theorem pt_d192_2 : ∀ q ∈ pt_c192_2, decode (px_b pt_r192) q.1 = .ok q.2 := by decide +kernel
set_option maxRecDepth 100000 in
theorem pt_d192_3 : ∀ q ∈ pt_c192_3, decode (px_b pt_r192) q.1 = .ok q.2 := by decide +kernel
set_option maxRecDepth 100000 in
theorem pt_d192_4 : ∀ q ∈ pt_c192_4, decode (px_b pt_r192) q.1 = .ok q.2 := by decide +kernel
set_option maxRecDepth 100000 in
theorem pt_d192 : ∀ c ∈ pt_c192, ∀ q ∈ c, decode (px_b pt_r192) q.1 = .ok q.2 := List.forall_mem_cons.mpr ⟨pt_d192_0, List.forall_mem_cons.mpr ⟨pt_d192_1, List.forall_mem_cons.mpr ⟨pt_d192_2, List.forall_mem_cons.mpr ⟨pt_d192_3, List.forall_mem_cons.mpr ⟨pt_d192_4, fun _ h => absurd h List.not_mem_nil⟩⟩⟩⟩⟩
set_option maxRecDepth 100000 in
theorem pt_d193 : ∀ c ∈ pt_c193, ∀ q ∈ c, decode (px_b pt_r193) q.1 = .ok q.2 := by decide +kernel
set_option maxRecDepth 100000 in
theorem pt_d194 : ∀ c ∈ pt_c194, ∀ q ∈ c, decode (px_b pt_r194) q.1 = .ok q.2 := by decide +kernel
set_option maxRecDepth 100000 in
theorem pt_d195 : ∀ c ∈ pt_c195, ∀ q ∈ c, decode (px_b pt_r195) q.1 = .ok q.2 := by decide +kernel
set_option maxRecDepth 100000 in
theorem pt_d196 : ∀ c ∈ pt_c196, ∀ q ∈ c, decode (px_b pt_r196) q.1 = .ok q.2 := by decide +kernel
set_option maxRecDepth 100000 in
theorem pt_d197 : ∀ c ∈ pt_c197, ∀ q ∈ c, decode (px_b pt_r197) q.1 = .ok q.2 := by decide +kernel
set_option maxRecDepth 100000 in
theorem pt_d198 : ∀ c ∈ pt_c198, ∀ q ∈ c, decode (px_b pt_r198) q.1 = .ok q.2 := by decide +kernel
set_option maxRecDepth 100000 in
theorem pt_d199 : ∀ c ∈ pt_c199, ∀ q ∈ c, decode (px_b pt_r199) q.1 = .ok q.2 := by decide +kernel
set_option maxRecDepth 100000 in
theorem pt_d200 : ∀ c ∈ pt_c200, ∀ q ∈ c, decode (px_b pt_r200) q.1 = .ok q.2 := by decide +kernel
set_option maxRecDepth 100000 in
theorem pt_d201 : ∀ c ∈ pt_c201, ∀ q ∈ c, decode (px_b pt_r201) q.1 = .ok q.2 := by decide +kernel
set_option maxRecDepth 100000 in
theorem pt_d202 : ∀ c ∈ pt_c202, ∀ q ∈ c, decode (px_b pt_r202) q.1 = .ok q.2 := by decide +kernel
set_option maxRecDepth 100000 in
theorem pt_d203 : ∀ c ∈ pt_c203, ∀ q ∈ c, decode (px_b pt_r203) q.1 = .ok q.2 := by decide +kernel
set_option maxRecDepth 100000 in
theorem pt_d204 : ∀ c ∈ pt_c204, ∀ q ∈ c, decode (px_b pt_r204) q.1 = .ok q.2 := by decide +kernel
set_option maxRecDepth 100000 in
theorem pt_d205 : ∀ c ∈ pt_c205, ∀ q ∈ c, decode (px_b pt_r205) q.1 = .ok q.2 := by decide +kernel
set_option maxRecDepth 100000 in
theorem pt_d206 : ∀ c ∈ pt_c206, ∀ q ∈ c, decode (px_b pt_r206) q.1 = .ok q.2 := by decide +kernel
set_option maxRecDepth 100000 in
theorem pt_d207 : ∀ c ∈ pt_c207, ∀ q ∈ c, decode (px_b pt_r207) q.1 = .ok q.2 := by decide +kernel
set_option maxRecDepth 100000 in
theorem pt_d208 : ∀ c ∈ pt_c208, ∀ q ∈ c, decode (px_b pt_r208) q.1 = .ok q.2 := by decide +kernel
set_option maxRecDepth 100000 in
theorem pt_d209 : ∀ c ∈ pt_c209, ∀ q ∈ c, decode (px_b pt_r209) q.1 = .ok q.2 := by decide +kernel
